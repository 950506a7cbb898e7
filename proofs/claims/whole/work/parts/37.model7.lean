/-! ===== the reference: the rest of the calls on things ===== -/
section GSW
variable {d k pc : Nat} {L : gL} {st : List Value} {S : gS} {Q : Option Value → gS → Prop} {row : gR}
theorem r_swI (hk : gMT[k]? = some row) {dd lo hi : Int} {offs : Array Int} {len : Nat} {ax : List Nat} {w0 : Value} {x : Int32} (j : Nat) (hq : glook row.2.2.2.2 pc = some (.tableswitch dd lo hi offs, len, ax, w0)) (hx : x.toInt = lo + j) (hj : lo + j ≤ hi) (h : gX d k (gax ax (j + 1)) L st S Q) : gX d k pc L (.int x :: st) S Q := by
  refine r_step hk hq rfl (pc' := gax ax (j + 1)) ?_ h
  simp only [gstep, gsw]
  rw [if_neg (by omega), show (x.toInt - lo).toNat = j by omega]
theorem r_swD (hk : gMT[k]? = some row) {dd lo hi : Int} {offs : Array Int} {len : Nat} {ax : List Nat} {w0 : Value} {x : Int32} (hq : glook row.2.2.2.2 pc = some (.tableswitch dd lo hi offs, len, ax, w0)) (hx : x.toInt < lo ∨ hi < x.toInt) (h : gX d k (gax ax 0) L st S Q) : gX d k pc L (.int x :: st) S Q := by
  refine r_step hk hq rfl (pc' := gax ax 0) ?_ h
  simp only [gstep, gsw]
  rw [if_pos hx]
theorem r_inQ {as : List Value} (hk : gMT[k]? = some row) (L0 : gL) (hl : (gent as).length ≤ row.2.2.1) (hL : gpad (gent as) row.2.2.1 = L0) (h : ∀ Q' : Option Value → gS → Prop, (∀ v S', Q v S' → Q' v S') → gX d k 0 L0 [] S Q') : gE d k as S Q := ⟨row, hk, hl, by rw [hL]; exact h Q (fun _ _ h => h)⟩
end GSW
section GM8
variable {w a : Nat → Nat → Int32} {b : Nat → Nat → Int64} {r : Nat → Nat → Nat} {q : Nat → Nat → Option Nat} {y : gH} {n u : Nat} {d : Nat}
theorem m_sort (hd : 4 ≤ d) {N T h : Nat} (hN : w 44 25 = nI N) (hN1 : N ≤ 100) (hT : w 44 24 = nI T) (hT1 : T < 1000) (hh : w 44 15 = nI h) (hh1 : h < 2) {ls : List (Nat × List Nat)} (hls : gmText a h ls) (hkd : ∀ t, t < N → gin (a 61 t) 8) (x z : Int32) : gE d 120 [.ref 44, .int x, .int z] (n, u, HP w a b r q y) (fun v S' =>
    (∃ t s k a', t < N ∧ s < 5 ∧ k < 8 ∧ x = nI t ∧ z = nI s ∧ a 61 t = nI k ∧ (a 64 t = 0 ∨ a 64 t = 2 ∨ a 64 t = 4) ∧ gag [58, 59, 64, 65, 66] a a' ∧ gXo a' = gsrt N (a 69) (nI T) (gway (gfa a T t k) ls) (gXo a) t s ∧ v = some (.int (a' 64 t)) ∧ S' = (n, u, HP (gTh w) a' b r q y))
    ∨ ((¬ ∃ t, t < N ∧ x = nI t ∧ gin z 5 ∧ (a 64 t = 0 ∨ a 64 t = 2 ∨ a 64 t = 4)) ∧ v = some (.int (-1)) ∧ S' = (n, u, HP (gTh w) a b r q y))) := by
  have hk : gMT[120]? = some gro_120 := rfl
  refine r_in hk [some (.ref 44), some (.int x), some (.int z)] (Nat.le_of_ble_eq_true rfl) rfl ?_
  generalize hQ : (fun (v : Option Value) (S' : gS) => (∃ t s k a', t < N ∧ s < 5 ∧ k < 8 ∧ x = nI t ∧ z = nI s ∧ a 61 t = nI k ∧ (a 64 t = 0 ∨ a 64 t = 2 ∨ a 64 t = 4) ∧ gag [58, 59, 64, 65, 66] a a' ∧ gXo a' = gsrt N (a 69) (nI T) (gway (gfa a T t k) ls) (gXo a) t s ∧ v = some (.int (a' 64 t)) ∧ S' = (n, u, HP (gTh w) a' b r q y))
    ∨ ((¬ ∃ t, t < N ∧ x = nI t ∧ gin z 5 ∧ (a 64 t = 0 ∨ a 64 t = 2 ∨ a 64 t = 4)) ∧ v = some (.int (-1)) ∧ S' = (n, u, HP (gTh w) a b r q y))) = Q
  have go : ∀ t s, t < N → s < 5 → x = nI t → z = nI s → (a 64 t = 0 ∨ a 64 t = 2 ∨ a 64 t = 4) → gX d 120 51 [some (.ref 44), some (.int x), some (.int z)] [] (n, u, HP (gTh w) a b r q y) Q := by
    intro t s ht hs hx hz hst
    obtain ⟨k, hk8, ek⟩ := hkd t ht
    subst hx; subst hz
    iterate 3 refine r_step hk rfl rfl rfl ?_
    refine r_callV hk [.ref 44, .int (nI t), .int (nI s)] [] rfl rfl rfl rfl rfl rfl rfl (by omega) (m_sorts (w := gTh w) (by omega) hN hN1 hT hT1 (by omega) hk8 ek hh hh1 hs hls) ?_
    rintro _ _ ⟨rfl, a2, hag2, hX2, rfl⟩
    iterate 3 refine r_step hk rfl rfl rfl ?_
    refine r_ia hk (t) rfl rfl rfl (by omega) rfl ?_
    refine r_iret hk rfl trivial ?_
    rw [← hQ]
    exact Or.inl ⟨t, s, k, a2, ht, hs, hk8, rfl, rfl, ek, hst, hag2, hX2, rfl, rfl⟩
  iterate 2 refine r_step hk rfl rfl rfl ?_
  refine r_putI hk rfl rfl rfl rfl ?_
  iterate 2 refine r_step hk rfl rfl rfl ?_
  refine r_callV hk [.ref 44, .int x] [] rfl rfl rfl rfl rfl rfl rfl (by omega) (m_isThing (w := gTh w) hN hN1 x) ?_
  rintro _ _ ⟨⟨⟨t, ht, hx⟩, rfl⟩ | ⟨hs, rfl⟩, rfl⟩
  · refine r_step hk rfl rfl rfl ?_
    refine r_eq (fun hq9 => absurd hq9 (by decide)) (fun _ => ?_)
    refine r_step hk rfl rfl rfl ?_
    refine r_callS hk [.int z] [] rfl rfl rfl rfl rfl (by omega) (m_isShop _ _ _) ?_
    rintro _ _ ⟨⟨⟨s, hs5, hz⟩, rfl⟩ | ⟨hz, rfl⟩, rfl⟩
    · refine r_step hk rfl rfl rfl ?_
      refine r_eq (fun hq9 => absurd hq9 (by decide)) (fun _ => ?_)
      iterate 3 refine r_step hk rfl rfl rfl ?_
      refine r_ia hk (t) rfl rfl hx (by omega) rfl ?_
      refine r_step hk rfl rfl rfl ?_
      refine r_eq (fun h26 => ?_) (fun h26 => ?_)
      · first | exact go t s ht hs5 hx hz (Or.inl h26) | exact go t s ht hs5 hx hz (Or.inr (Or.inl h36)) | exact go t s ht hs5 hx hz (Or.inr (Or.inr h46))
      · iterate 3 refine r_step hk rfl rfl rfl ?_
        refine r_ia hk (t) rfl rfl hx (by omega) rfl ?_
        iterate 2 refine r_step hk rfl rfl rfl ?_
        refine r_eq (fun h36 => ?_) (fun h36 => ?_)
        · first | exact go t s ht hs5 hx hz (Or.inl h26) | exact go t s ht hs5 hx hz (Or.inr (Or.inl h36)) | exact go t s ht hs5 hx hz (Or.inr (Or.inr h46))
        · iterate 3 refine r_step hk rfl rfl rfl ?_
          refine r_ia hk (t) rfl rfl hx (by omega) rfl ?_
          iterate 2 refine r_step hk rfl rfl rfl ?_
          refine r_eq (fun h46 => ?_) (fun h46 => ?_)
          · first | exact go t s ht hs5 hx hz (Or.inl h26) | exact go t s ht hs5 hx hz (Or.inr (Or.inl h36)) | exact go t s ht hs5 hx hz (Or.inr (Or.inr h46))
          · refine r_step hk rfl rfl rfl ?_
            refine r_iret hk rfl trivial ?_
            rw [← hQ]
            first | exact Or.inr ⟨fun ⟨t2, ht2, e2, _, h3⟩ => by have e := nI_inj (hx.symm.trans e2) (by omega) (by omega); subst e; exact h3.elim h26 (fun h4 => h4.elim h36 h46), rfl, rfl⟩ | exact Or.inr ⟨fun ⟨_, _, _, h2, _⟩ => hz h2, rfl, rfl⟩ | exact Or.inr ⟨fun ⟨t2, h2, e2, _, _⟩ => hs ⟨t2, h2, e2⟩, rfl, rfl⟩
    · refine r_step hk rfl rfl rfl ?_
      refine r_eq (fun _ => ?_) (fun hq9 => absurd (by decide) hq9)
      refine r_step hk rfl rfl rfl ?_
      refine r_iret hk rfl trivial ?_
      rw [← hQ]
      first | exact Or.inr ⟨fun ⟨t2, ht2, e2, _, h3⟩ => by have e := nI_inj (hx.symm.trans e2) (by omega) (by omega); subst e; exact h3.elim h26 (fun h4 => h4.elim h36 h46), rfl, rfl⟩ | exact Or.inr ⟨fun ⟨_, _, _, h2, _⟩ => hz h2, rfl, rfl⟩ | exact Or.inr ⟨fun ⟨t2, h2, e2, _, _⟩ => hs ⟨t2, h2, e2⟩, rfl, rfl⟩
  · refine r_step hk rfl rfl rfl ?_
    refine r_eq (fun _ => ?_) (fun hq9 => absurd (by decide) hq9)
    refine r_step hk rfl rfl rfl ?_
    refine r_iret hk rfl trivial ?_
    rw [← hQ]
    first | exact Or.inr ⟨fun ⟨t2, ht2, e2, _, h3⟩ => by have e := nI_inj (hx.symm.trans e2) (by omega) (by omega); subst e; exact h3.elim h26 (fun h4 => h4.elim h36 h46), rfl, rfl⟩ | exact Or.inr ⟨fun ⟨_, _, _, h2, _⟩ => hz h2, rfl, rfl⟩ | exact Or.inr ⟨fun ⟨t2, h2, e2, _, _⟩ => hs ⟨t2, h2, e2⟩, rfl, rfl⟩
theorem m_habit (hd : 1 ≤ d) (x : Int32) : gE d 130 [.ref 44, .int x] (n, u, HP w a b r q y) (fun v S' => S' = (n, u, HP (gTh w) a b r q y) ∧
    ((∃ j, j < 10 ∧ x = nI j ∧ ¬ a 71 j = 0 ∧ v = some (.int (a 72 j * 1000 / a 71 j))) ∨ ((¬ ∃ j, j < 10 ∧ x = nI j ∧ ¬ a 71 j = 0) ∧ v = some (.int (-1))))) := by
  have hk : gMT[130]? = some gro_130 := rfl
  refine r_in hk [some (.ref 44), some (.int x)] (Nat.le_of_ble_eq_true rfl) rfl ?_
  iterate 2 refine r_step hk rfl rfl rfl ?_
  refine r_putI hk rfl rfl rfl rfl ?_
  iterate 3 refine r_step hk rfl rfl rfl ?_
  refine r_callS hk [.int x, .int 0, .int 9] [] rfl rfl rfl rfl rfl hd (m_within _ _ _ 9 (by decide)) ?_
  rintro _ _ ⟨⟨⟨j, hj, rfl⟩, rfl⟩ | ⟨hs, rfl⟩, rfl⟩
  · refine r_step hk rfl rfl rfl ?_
    refine r_eq (fun hq9 => absurd hq9 (by decide)) (fun _ => ?_)
    iterate 3 refine r_step hk rfl rfl rfl ?_
    refine r_ia hk (j) rfl rfl rfl hj rfl ?_
    refine r_step hk rfl rfl rfl ?_
    refine r_ne (fun h21 => ?_) (fun h21 => ?_)
    · iterate 3 refine r_step hk rfl rfl rfl ?_
      refine r_ia hk (j) rfl rfl rfl hj rfl ?_
      iterate 5 refine r_step hk rfl rfl rfl ?_
      refine r_ia hk (j) rfl rfl rfl hj rfl ?_
      refine r_div hk rfl h21 ?_
      refine r_iret hk rfl trivial ?_
      first | exact ⟨rfl, Or.inl ⟨j, hj, rfl, h21, rfl⟩⟩ | exact ⟨rfl, Or.inr ⟨fun ⟨j2, h2, e2, h3⟩ => h3 (by rw [← nI_inj e2 (by omega) (by omega)]; exact h21), rfl⟩⟩ | exact ⟨rfl, Or.inr ⟨fun ⟨j2, h2, e2, h3⟩ => hs ⟨j2, h2, e2⟩, rfl⟩⟩
    · iterate 2 refine r_step hk rfl rfl rfl ?_
      refine r_iret hk rfl trivial ?_
      first | exact ⟨rfl, Or.inl ⟨j, hj, rfl, h21, rfl⟩⟩ | exact ⟨rfl, Or.inr ⟨fun ⟨j2, h2, e2, h3⟩ => h3 (by rw [← nI_inj e2 (by omega) (by omega)]; exact h21), rfl⟩⟩ | exact ⟨rfl, Or.inr ⟨fun ⟨j2, h2, e2, h3⟩ => hs ⟨j2, h2, e2⟩, rfl⟩⟩
  · refine r_step hk rfl rfl rfl ?_
    refine r_eq (fun _ => ?_) (fun hq9 => absurd (by decide) hq9)
    iterate 2 refine r_step hk rfl rfl rfl ?_
    refine r_iret hk rfl trivial ?_
    first | exact ⟨rfl, Or.inl ⟨j, hj, rfl, h21, rfl⟩⟩ | exact ⟨rfl, Or.inr ⟨fun ⟨j2, h2, e2, h3⟩ => h3 (by rw [← nI_inj e2 (by omega) (by omega)]; exact h21), rfl⟩⟩ | exact ⟨rfl, Or.inr ⟨fun ⟨j2, h2, e2, h3⟩ => hs ⟨j2, h2, e2⟩, rfl⟩⟩
end GM8
section GM9
variable {w a : Nat → Nat → Int32} {b : Nat → Nat → Int64} {r : Nat → Nat → Nat} {q : Nat → Nat → Option Nat} {y : gH} {n u : Nat} {d : Nat}
/-- a worth, as the reference writes it -/
def gwo (p : Int32) (s la : Nat) : Int32 := (p.toInt64 * (nI s + 1).toInt64 / (nI s + nI la + 2).toInt64).toInt32
theorem m_worth (hd : 1 ≤ d) {N M : Nat} (hN : w 44 25 = nI N) (hN1 : N ≤ 100) (hM : w 44 41 = nI M) (hM1 : M ≤ 200) (hkd : ∀ t, t < N → gin (a 61 t) 8) (hst : ∀ j, j < M → gin (a 74 j) N) (la : Nat → Nat) (hla : ∀ i, i < 40 → a 70 i = nI (la i) ∧ la i < 100000) (x z : Int32) : gE d 141 [.ref 44, .int x, .int z] (n, u, HP w a b r q y) (fun v S' => S' = (n, u, HP (gTh w) a b r q y) ∧
    ((∃ t k s, t < N ∧ k < 8 ∧ s < 5 ∧ x = nI t ∧ a 61 t = nI k ∧ z = nI s ∧ v = some (.int (gwo (a 68 k) (gcnt (gSo a (nI k) (nI s)) M) (la (8 * s + k))))) ∨ (¬ (gin x N ∧ gin z 5) ∧ v = some (.int (-1))))) := by
  have hk : gMT[141]? = some gro_141 := rfl
  refine r_in hk [some (.ref 44), some (.int x), some (.int z)] (Nat.le_of_ble_eq_true rfl) rfl ?_
  iterate 2 refine r_step hk rfl rfl rfl ?_
  refine r_putI hk rfl rfl rfl rfl ?_
  iterate 2 refine r_step hk rfl rfl rfl ?_
  refine r_callV hk [.ref 44, .int x] [] rfl rfl rfl rfl rfl rfl rfl hd (m_isThing (w := gTh w) hN hN1 x) ?_
  rintro _ _ ⟨⟨⟨t, ht, rfl⟩, rfl⟩ | ⟨hs, rfl⟩, rfl⟩
  · obtain ⟨k, hk8, ek⟩ := hkd t ht
    refine r_step hk rfl rfl rfl ?_
    refine r_eq (fun hq9 => absurd hq9 (by decide)) (fun _ => ?_)
    refine r_step hk rfl rfl rfl ?_
    refine r_callS hk [.int z] [] rfl rfl rfl rfl rfl hd (m_isShop _ _ _) ?_
    rintro _ _ ⟨⟨⟨s, hs5, rfl⟩, rfl⟩ | ⟨hz, rfl⟩, rfl⟩
    · refine r_step hk rfl rfl rfl ?_
      refine r_ne (fun _ => ?_) (fun hq9 => absurd hq9 (by decide))
      iterate 6 refine r_step hk rfl rfl rfl ?_
      refine r_ia hk (t) rfl rfl rfl (by omega) rfl ?_
      refine r_ia hk (k) rfl rfl ek hk8 rfl ?_
      iterate 3 refine r_step hk rfl rfl rfl ?_
      refine r_ia hk (t) rfl rfl rfl (by omega) rfl ?_
      refine r_step hk rfl rfl rfl ?_
      refine r_callV hk [.ref 44, .int (a 68 k), .int (a 61 t), .int (nI s)] [] rfl rfl rfl rfl rfl rfl rfl hd (by rw [ek]; exact m_weighs (w := gTh w) hN1 hM hM1 hst hk8 hs5 (hla (8 * s + k) (by omega)).1 (hla (8 * s + k) (by omega)).2 _) ?_
      rintro _ _ ⟨rfl, rfl⟩
      refine r_iret hk rfl trivial ?_
      first | exact ⟨rfl, Or.inl ⟨t, k, s, ht, hk8, hs5, rfl, ek, rfl, rfl⟩⟩ | exact ⟨rfl, Or.inr ⟨fun h => hz h.2, rfl⟩⟩ | exact ⟨rfl, Or.inr ⟨fun h => hs h.1, rfl⟩⟩
    · refine r_step hk rfl rfl rfl ?_
      refine r_ne (fun hq9 => absurd (by decide) hq9) (fun _ => ?_)
      iterate 2 refine r_step hk rfl rfl rfl ?_
      refine r_iret hk rfl trivial ?_
      first | exact ⟨rfl, Or.inl ⟨t, k, s, ht, hk8, hs5, rfl, ek, rfl, rfl⟩⟩ | exact ⟨rfl, Or.inr ⟨fun h => hz h.2, rfl⟩⟩ | exact ⟨rfl, Or.inr ⟨fun h => hs h.1, rfl⟩⟩
  · refine r_step hk rfl rfl rfl ?_
    refine r_eq (fun _ => ?_) (fun hq9 => absurd (by decide) hq9)
    iterate 2 refine r_step hk rfl rfl rfl ?_
    refine r_iret hk rfl trivial ?_
    first | exact ⟨rfl, Or.inl ⟨t, k, s, ht, hk8, hs5, rfl, ek, rfl, rfl⟩⟩ | exact ⟨rfl, Or.inr ⟨fun h => hz h.2, rfl⟩⟩ | exact ⟨rfl, Or.inr ⟨fun h => hs h.1, rfl⟩⟩
/-- the best shop so far: (shop + 1 or 0, its worth) -/
def gbest (rm : Nat → Prop) [DecidablePred rm] (sh : Int32) (wo : Nat → Int32) : Nat → Int32 × Int32
  | 0 => (-1, 0)
  | s + 1 => if ¬ nI s = sh ∧ rm s ∧ ((gbest rm sh wo s).1 < 0 ∨ (gbest rm sh wo s).2 < wo s) then (nI s, wo s) else gbest rm sh wo s
def gwhere (rm : Nat → Prop) [DecidablePred rm] (sh : Int32) (wo : Nat → Int32) (stay cost : Int32) : Int32 := if ¬ (gbest rm sh wo 5).1 < 0 ∧ cost < (gbest rm sh wo 5).2 - stay then (gbest rm sh wo 5).1 else -1
theorem m_whereTo (hd : 2 ≤ d) {N M : Nat} (hN : w 44 25 = nI N) (hN1 : N ≤ 100) (hM : w 44 41 = nI M) (hM1 : M ≤ 200) (hst : ∀ j, j < M → gin (a 74 j) N) (la : Nat → Nat) (hla : ∀ i, i < 40 → a 70 i = nI (la i) ∧ la i < 100000) {t k s0 : Nat} (ht : t < 100) (hk8 : k < 8) (ek : a 61 t = nI k) (hs0 : s0 < 5) (es : a 65 t = nI s0) :
    gE d 144 [.ref 44, .int (nI t)] (n, u, HP w a b r q y) (gre (gwhere (fun s => nI (gcnt (gOn a 1 (nI s)) N) < a 69 s) (nI s0) (fun s => gwo (a 68 k) (gcnt (gSo a (nI k) (nI s)) M) (la (8 * s + k))) (gwo (gpr (a 68 k) (w 44 24) (a 66 t)) (gcnt (gSo a (nI k) (nI s0)) M) (la (8 * s0 + k))) (w 44 47)) (n, u, HP w a b r q y)) := by
  have hk : gMT[144]? = some gro_144 := rfl
  refine r_in hk [some (.ref 44), some (.int (nI t)), none, none, none, none] (Nat.le_of_ble_eq_true rfl) rfl ?_
  have hwe : ∀ (p : Int32) (s : Nat), s < 5 → gE (d - 1) 142 [.ref 44, .int p, .int (nI k), .int (nI s)] (n, u, HP w a b r q y) (gre (gwo p (gcnt (gSo a (nI k) (nI s)) M) (la (8 * s + k))) (n, u, HP w a b r q y)) := fun p s hs => m_weighs hN1 hM hM1 hst hk8 hs (hla (8 * s + k) (by omega)).1 (hla (8 * s + k) (by omega)).2 p
  have hro : ∀ s : Nat, s < 5 → gE (d - 1) 126 [.ref 44, .int (nI s)] (n, u, HP w a b r q y) (gbo (nI (gcnt (gOn a 1 (nI s)) N) < a 69 s) (n, u, HP w a b r q y)) := fun s hs => m_hasRoom (by omega) hN hN1 hs
  have loop : ∀ s, s ≤ 5 → ∀ (x1 x2 z : Int32) (l5 : Option Value), z = nI s → (x1, x2) = gbest (fun s => nI (gcnt (gOn a 1 (nI s)) N) < a 69 s) (nI s0) (fun s => gwo (a 68 k) (gcnt (gSo a (nI k) (nI s)) M) (la (8 * s + k))) s →
      gX d 144 7 [some (.ref 44), some (.int (nI t)), some (.int x1), some (.int x2), some (.int z), l5] [] (n, u, HP w a b r q y) (gre (gwhere (fun s => nI (gcnt (gOn a 1 (nI s)) N) < a 69 s) (nI s0) (fun s => gwo (a 68 k) (gcnt (gSo a (nI k) (nI s)) M) (la (8 * s + k))) (gwo (gpr (a 68 k) (w 44 24) (a 66 t)) (gcnt (gSo a (nI k) (nI s0)) M) (la (8 * s0 + k))) (w 44 47)) (n, u, HP w a b r q y)) := by
    refine g_down ?_ ?_
    · intro x1 x2 z l5 hz hx
      unfold gwhere
      rw [← hx]
      iterate 3 refine r_step hk rfl rfl rfl ?_
      refine r_ge (fun _ => ?_) (fun hq9 => absurd (show (5 : Int32) ≤ z by rw [hz]; decide) hq9)
      iterate 2 refine r_step hk rfl rfl rfl ?_
      refine r_lt (fun h81 => ?_) (fun h81 => ?_)
      · refine r_step hk rfl rfl rfl ?_
        refine r_iret hk rfl trivial ?_
        refine ⟨congrArg (fun z => some (Value.int z)) ?_, rfl⟩
        first | exact (if_pos ⟨h81, Int32.not_le.mp h111⟩).symm | exact (if_neg (fun hc => Int32.not_lt.mpr h111 hc.2)).symm | exact (if_neg (fun hc => hc.1 h81)).symm
      · iterate 4 refine r_step hk rfl rfl rfl ?_
        refine r_callV hk [.ref 44, .int (nI t)] [.ref 44, .int x2] rfl rfl rfl rfl rfl rfl rfl (by omega) (m_priceOf ht hk8 ek) ?_
        rintro _ _ ⟨rfl, rfl⟩
        iterate 3 refine r_step hk rfl rfl rfl ?_
        refine r_ia hk (t) rfl rfl rfl ht rfl ?_
        iterate 3 refine r_step hk rfl rfl rfl ?_
        refine r_ia hk (t) rfl rfl rfl ht rfl ?_
        refine r_callV hk [.ref 44, .int _, .int (a 61 t), .int (a 65 t)] [.int x2] rfl rfl rfl rfl rfl rfl rfl (by omega) (by rw [ek, es]; exact hwe _ s0 hs0) ?_
        rintro _ _ ⟨rfl, rfl⟩
        iterate 4 refine r_step hk rfl rfl rfl ?_
        refine r_le (fun h111 => ?_) (fun h111 => ?_)
        · refine r_step hk rfl rfl rfl ?_
          refine r_iret hk rfl trivial ?_
          refine ⟨congrArg (fun z => some (Value.int z)) ?_, rfl⟩
          first | exact (if_pos ⟨h81, Int32.not_le.mp h111⟩).symm | exact (if_neg (fun hc => Int32.not_lt.mpr h111 hc.2)).symm | exact (if_neg (fun hc => hc.1 h81)).symm
        · iterate 2 refine r_step hk rfl rfl rfl ?_
          refine r_iret hk rfl trivial ?_
          refine ⟨congrArg (fun z => some (Value.int z)) ?_, rfl⟩
          first | exact (if_pos ⟨h81, Int32.not_le.mp h111⟩).symm | exact (if_neg (fun hc => Int32.not_lt.mpr h111 hc.2)).symm | exact (if_neg (fun hc => hc.1 h81)).symm
    · intro s hs ih x1 x2 z l5 hz hx
      subst hz
      have stay : ¬ (¬ nI s = nI s0 ∧ nI (gcnt (gOn a 1 (nI s)) N) < a 69 s ∧ (x1 < 0 ∨ x2 < gwo (a 68 k) (gcnt (gSo a (nI k) (nI s)) M) (la (8 * s + k)))) → (x1, x2) = gbest (fun s => nI (gcnt (gOn a 1 (nI s)) N) < a 69 s) (nI s0) (fun s => gwo (a 68 k) (gcnt (gSo a (nI k) (nI s)) M) (la (8 * s + k))) (s + 1) := by
        intro hno
        conv => rhs; unfold gbest
        rw [← hx, if_neg hno]
      have tak : (¬ nI s = nI s0 ∧ nI (gcnt (gOn a 1 (nI s)) N) < a 69 s ∧ (x1 < 0 ∨ x2 < gwo (a 68 k) (gcnt (gSo a (nI k) (nI s)) M) (la (8 * s + k)))) → (nI s, gwo (a 68 k) (gcnt (gSo a (nI k) (nI s)) M) (la (8 * s + k))) = gbest (fun s => nI (gcnt (gOn a 1 (nI s)) N) < a 69 s) (nI s0) (fun s => gwo (a 68 k) (gcnt (gSo a (nI k) (nI s)) M) (la (8 * s + k))) (s + 1) := by
        intro hy
        conv => rhs; unfold gbest
        rw [← hx, if_pos hy]
      iterate 3 refine r_step hk rfl rfl rfl ?_
      refine r_ge (fun hq9 => absurd hq9 (show ¬ (5 : Int32) ≤ nI s by exact nI_ge (b := 5) hs (by decide))) (fun _ => ?_)
      iterate 6 refine r_step hk rfl rfl rfl ?_
      refine r_ia hk (t) rfl rfl rfl ht rfl ?_
      refine r_ia hk (k) rfl rfl ek hk8 rfl ?_
      iterate 3 refine r_step hk rfl rfl rfl ?_
      refine r_ia hk (t) rfl rfl rfl ht rfl ?_
      refine r_step hk rfl rfl rfl ?_
      refine r_callV hk [.ref 44, .int (a 68 k), .int (a 61 t), .int (nI s)] [] rfl rfl rfl rfl rfl rfl rfl (by omega) (by rw [ek]; exact hwe _ s hs) ?_
      rintro _ _ ⟨rfl, rfl⟩
      iterate 5 refine r_step hk rfl rfl rfl ?_
      refine r_ia hk (t) rfl rfl rfl ht rfl ?_
      refine r_step hk rfl rfl rfl ?_
      refine r_eq (fun h46 => ?_) (fun h46 => ?_)
      · iterate 2 refine r_step hk rfl rfl rfl ?_
        first | exact ih _ _ _ _ (nI_1 s) (tak ⟨fun e => h46 (e.trans es.symm), hr, Or.inl h59⟩) | exact ih _ _ _ _ (nI_1 s) (stay (fun hc => hc.2.2.elim h59 (Int32.not_lt.mpr h65))) | exact ih _ _ _ _ (nI_1 s) (tak ⟨fun e => h46 (e.trans es.symm), hr, Or.inr (Int32.not_le.mp h65)⟩) | exact ih _ _ _ _ (nI_1 s) (stay (fun hc => hr hc.2.1)) | exact ih _ _ _ _ (nI_1 s) (stay (fun hc => hc.1 (h46.trans es)))
      · iterate 2 refine r_step hk rfl rfl rfl ?_
        refine r_callV hk [.ref 44, .int (nI s)] [] rfl rfl rfl rfl rfl rfl rfl (by omega) (hro s hs) ?_
        rintro _ _ ⟨⟨hr, rfl⟩ | ⟨hr, rfl⟩, rfl⟩
        · refine r_step hk rfl rfl rfl ?_
          refine r_eq (fun hq9 => absurd hq9 (by decide)) (fun _ => ?_)
          iterate 2 refine r_step hk rfl rfl rfl ?_
          refine r_lt (fun h59 => ?_) (fun h59 => ?_)
          · iterate 6 refine r_step hk rfl rfl rfl ?_
            first | exact ih _ _ _ _ (nI_1 s) (tak ⟨fun e => h46 (e.trans es.symm), hr, Or.inl h59⟩) | exact ih _ _ _ _ (nI_1 s) (stay (fun hc => hc.2.2.elim h59 (Int32.not_lt.mpr h65))) | exact ih _ _ _ _ (nI_1 s) (tak ⟨fun e => h46 (e.trans es.symm), hr, Or.inr (Int32.not_le.mp h65)⟩) | exact ih _ _ _ _ (nI_1 s) (stay (fun hc => hr hc.2.1)) | exact ih _ _ _ _ (nI_1 s) (stay (fun hc => hc.1 (h46.trans es)))
          · iterate 3 refine r_step hk rfl rfl rfl ?_
            refine r_le (fun h65 => ?_) (fun h65 => ?_)
            · iterate 2 refine r_step hk rfl rfl rfl ?_
              first | exact ih _ _ _ _ (nI_1 s) (tak ⟨fun e => h46 (e.trans es.symm), hr, Or.inl h59⟩) | exact ih _ _ _ _ (nI_1 s) (stay (fun hc => hc.2.2.elim h59 (Int32.not_lt.mpr h65))) | exact ih _ _ _ _ (nI_1 s) (tak ⟨fun e => h46 (e.trans es.symm), hr, Or.inr (Int32.not_le.mp h65)⟩) | exact ih _ _ _ _ (nI_1 s) (stay (fun hc => hr hc.2.1)) | exact ih _ _ _ _ (nI_1 s) (stay (fun hc => hc.1 (h46.trans es)))
            · iterate 6 refine r_step hk rfl rfl rfl ?_
              first | exact ih _ _ _ _ (nI_1 s) (tak ⟨fun e => h46 (e.trans es.symm), hr, Or.inl h59⟩) | exact ih _ _ _ _ (nI_1 s) (stay (fun hc => hc.2.2.elim h59 (Int32.not_lt.mpr h65))) | exact ih _ _ _ _ (nI_1 s) (tak ⟨fun e => h46 (e.trans es.symm), hr, Or.inr (Int32.not_le.mp h65)⟩) | exact ih _ _ _ _ (nI_1 s) (stay (fun hc => hr hc.2.1)) | exact ih _ _ _ _ (nI_1 s) (stay (fun hc => hc.1 (h46.trans es)))
        · refine r_step hk rfl rfl rfl ?_
          refine r_eq (fun _ => ?_) (fun hq9 => absurd (by decide) hq9)
          iterate 2 refine r_step hk rfl rfl rfl ?_
          first | exact ih _ _ _ _ (nI_1 s) (tak ⟨fun e => h46 (e.trans es.symm), hr, Or.inl h59⟩) | exact ih _ _ _ _ (nI_1 s) (stay (fun hc => hc.2.2.elim h59 (Int32.not_lt.mpr h65))) | exact ih _ _ _ _ (nI_1 s) (tak ⟨fun e => h46 (e.trans es.symm), hr, Or.inr (Int32.not_le.mp h65)⟩) | exact ih _ _ _ _ (nI_1 s) (stay (fun hc => hr hc.2.1)) | exact ih _ _ _ _ (nI_1 s) (stay (fun hc => hc.1 (h46.trans es)))
  iterate 6 refine r_step hk rfl rfl rfl ?_
  exact loop 0 (Nat.zero_le _) _ _ _ _ rfl rfl
theorem gbest_r (rm : Nat → Prop) [DecidablePred rm] (sh : Int32) (wo : Nat → Int32) : ∀ s, (gbest rm sh wo s).1 = -1 ∨ ∃ j, j < s ∧ (gbest rm sh wo s).1 = nI j := by
  intro s
  induction s with
  | zero => exact Or.inl rfl
  | succ s ih =>
    unfold gbest
    split
    · exact Or.inr ⟨s, by omega, rfl⟩
    · rcases ih with h | ⟨j, hj, h⟩
      · exact Or.inl h
      · exact Or.inr ⟨j, by omega, h⟩
theorem gwhere_r (rm : Nat → Prop) [DecidablePred rm] (sh : Int32) (wo : Nat → Int32) (stay cost : Int32) : gwhere rm sh wo stay cost = -1 ∨ gin (gwhere rm sh wo stay cost) 5 := by
  unfold gwhere
  split
  · exact gbest_r rm sh wo 5
  · exact Or.inl rfl
/-- where a thing on a shelf should go, as the reference says it -/
def gwh (W : Nat → Int32) (a : Nat → Nat → Int32) (N M : Nat) (la : Nat → Nat) (t k s0 : Nat) : Int32 := gwhere (fun s => nI (gcnt (gOn a 1 (nI s)) N) < a 69 s) (nI s0) (fun s => gwo (a 68 k) (gcnt (gSo a (nI k) (nI s)) M) (la (8 * s + k))) (gwo (gpr (a 68 k) (W 24) (a 66 t)) (gcnt (gSo a (nI k) (nI s0)) M) (la (8 * s0 + k))) (W 47)
theorem m_where (hd : 3 ≤ d) {N M : Nat} (hN : w 44 25 = nI N) (hN1 : N ≤ 100) (hM : w 44 41 = nI M) (hM1 : M ≤ 200) (hst : ∀ j, j < M → gin (a 74 j) N) (la : Nat → Nat) (hla : ∀ i, i < 40 → a 70 i = nI (la i) ∧ la i < 100000) (hkd : ∀ t, t < N → gin (a 61 t) 8) (hsh : ∀ t, t < N → gin (a 65 t) 5) (x : Int32) :
    gE d 143 [.ref 44, .int x] (n, u, HP w a b r q y) (fun v S' => S' = (n, u, HP (gTh w) a b r q y) ∧
    ((∃ t k s, t < N ∧ k < 8 ∧ s < 5 ∧ x = nI t ∧ a 64 t = 1 ∧ a 61 t = nI k ∧ a 65 t = nI s ∧ v = some (.int (gwh (w 44) a N M la t k s))) ∨ ((¬ ∃ t, t < N ∧ x = nI t ∧ a 64 t = 1) ∧ v = some (.int (-1))))) := by
  have hk : gMT[143]? = some gro_143 := rfl
  refine r_in hk [some (.ref 44), some (.int x)] (Nat.le_of_ble_eq_true rfl) rfl ?_
  iterate 2 refine r_step hk rfl rfl rfl ?_
  refine r_putI hk rfl rfl rfl rfl ?_
  iterate 2 refine r_step hk rfl rfl rfl ?_
  refine r_callV hk [.ref 44, .int x] [] rfl rfl rfl rfl rfl rfl rfl (by omega) (m_isOn (w := gTh w) (by omega) hN hN1 x) ?_
  rintro _ _ ⟨⟨⟨t, ht, rfl, hon⟩, rfl⟩ | ⟨hs, rfl⟩, rfl⟩
  · obtain ⟨⟨k, hk8, hk1⟩, ⟨s, hs5, hs1⟩⟩ := And.intro (hkd t ht) (hsh t ht)
    refine r_step hk rfl rfl rfl ?_
    refine r_eq (fun hq9 => absurd hq9 (by decide)) (fun _ => ?_)
    iterate 2 refine r_step hk rfl rfl rfl ?_
    refine r_callV hk [.ref 44, .int (nI t)] [] rfl rfl rfl rfl rfl rfl rfl (by omega) (m_whereTo (w := gTh w) (by omega) hN hN1 hM hM1 hst la hla (by omega) hk8 hk1 hs5 hs1) ?_
    rintro _ _ ⟨rfl, rfl⟩
    refine r_step hk rfl rfl rfl ?_
    refine r_iret hk rfl trivial ?_
    first | exact ⟨rfl, Or.inl ⟨t, k, s, ht, hk8, hs5, rfl, hon, hk1, hs1, rfl⟩⟩ | exact ⟨rfl, Or.inr ⟨hs, rfl⟩⟩
  · refine r_step hk rfl rfl rfl ?_
    refine r_eq (fun _ => ?_) (fun hq9 => absurd (by decide) hq9)
    refine r_step hk rfl rfl rfl ?_
    refine r_iret hk rfl trivial ?_
    first | exact ⟨rfl, Or.inl ⟨t, k, s, ht, hk8, hs5, rfl, hon, hk1, hs1, rfl⟩⟩ | exact ⟨rfl, Or.inr ⟨hs, rfl⟩⟩
theorem m_move (hd : 3 ≤ d) {N M : Nat} (hN : w 44 25 = nI N) (hN1 : N ≤ 100) (hM : w 44 41 = nI M) (hM1 : M ≤ 200) (hst : ∀ j, j < M → gin (a 74 j) N) (la : Nat → Nat) (hla : ∀ i, i < 40 → a 70 i = nI (la i) ∧ la i < 100000) (hkd : ∀ t, t < N → gin (a 61 t) 8) (hsh : ∀ t, t < N → gin (a 65 t) 5) (x : Int32) :
    gE d 145 [.ref 44, .int x] (n, u, HP w a b r q y) (fun v S' => 
    (∃ t k s s', t < N ∧ k < 8 ∧ s < 5 ∧ s' < 5 ∧ x = nI t ∧ a 64 t = 1 ∧ a 61 t = nI k ∧ a 65 t = nI s ∧ gwh (w 44) a N M la t k s = nI s' ∧ v = some (.int 1) ∧ S' = (n, u, HP (gTh w) (upd2 (upd2 (upd2 (upd2 a 64 t 1) 65 t (nI s')) 66 t (w 44 24)) 67 t (a 67 t + 1)) b r q y))
    ∨ ((¬ ∃ t k s, t < N ∧ k < 8 ∧ s < 5 ∧ x = nI t ∧ a 64 t = 1 ∧ a 61 t = nI k ∧ a 65 t = nI s ∧ ¬ gwh (w 44) a N M la t k s = -1) ∧ v = some (.int 0) ∧ S' = (n, u, HP (gTh w) a b r q y))) := by
  have hk : gMT[145]? = some gro_145 := rfl
  refine r_inQ hk [some (.ref 44), some (.int x), none] (Nat.le_of_ble_eq_true rfl) rfl ?_
  intro Q hQ
  have no : (¬ ∃ t k s, t < N ∧ k < 8 ∧ s < 5 ∧ x = nI t ∧ a 64 t = 1 ∧ a 61 t = nI k ∧ a 65 t = nI s ∧ ¬ gwh (w 44) a N M la t k s = -1) → gX d 145 23 [some (.ref 44), some (.int x), some (.int (-1))] [] (n, u, HP (gTh w) a b r q y) Q := by
    intro hno
    iterate 2 refine r_step hk rfl rfl rfl ?_
    refine r_ge (fun hq9 => absurd hq9 (show ¬ (0 : Int32) ≤ -1 by decide)) (fun _ => ?_)
    refine r_step hk rfl rfl rfl ?_
    refine r_iret hk rfl (Or.inl rfl) ?_
    exact hQ _ _ (Or.inr ⟨hno, rfl, rfl⟩)
  have go : ∀ t k s s2, t < N → k < 8 → s < 5 → s2 < 5 → x = nI t → a 64 t = 1 → a 61 t = nI k → a 65 t = nI s → gwh (w 44) a N M la t k s = nI s2 → gX d 145 23 [some (.ref 44), some (.int x), some (.int (nI s2))] [] (n, u, HP (gTh w) a b r q y) Q := by
    intro t k s s2 ht hk8 hs5 hs2 ex hon hk1 hs1 hgw
    subst ex
    iterate 2 refine r_step hk rfl rfl rfl ?_
    refine r_ge (fun _ => ?_) (fun hq9 => absurd (show (0 : Int32) ≤ nI s2 from nI_pos' (by omega)) hq9)
    iterate 3 refine r_step hk rfl rfl rfl ?_
    refine r_callV hk [.ref 44, .int (nI t), .int (nI s2)] [] rfl rfl rfl rfl rfl rfl rfl (by omega) (m_comesOn (by omega) _) ?_
    rintro _ _ ⟨rfl, rfl⟩
    iterate 4 refine r_step hk rfl rfl rfl ?_
    refine r_ia hk (t) rfl rfl rfl (by omega) rfl ?_
    iterate 2 refine r_step hk rfl rfl rfl ?_
    refine r_is hk (t) rfl rfl rfl rfl (by omega) rfl rfl ?_
    refine r_step hk rfl rfl rfl ?_
    refine r_iret hk rfl (Or.inr rfl) ?_
    exact hQ _ _ (Or.inl ⟨t, k, s, s2, ht, hk8, hs5, hs2, rfl, hon, hk1, hs1, hgw, rfl, rfl⟩)
  iterate 2 refine r_step hk rfl rfl rfl ?_
  refine r_putI hk rfl rfl rfl rfl ?_
  iterate 2 refine r_step hk rfl rfl rfl ?_
  refine r_callV hk [.ref 44, .int x] [] rfl rfl rfl rfl rfl rfl rfl (by omega) (m_isOn (w := gTh w) (by omega) hN hN1 x) ?_
  rintro _ _ ⟨⟨⟨t, ht, ex, hon⟩, rfl⟩ | ⟨hs, rfl⟩, rfl⟩
  · obtain ⟨⟨k, hk8, hk1⟩, ⟨s, hs5, hs1⟩⟩ := And.intro (hkd t ht) (hsh t ht)
    refine r_step hk rfl rfl rfl ?_
    refine r_eq (fun hq9 => absurd hq9 (by decide)) (fun _ => ?_)
    iterate 2 refine r_step hk rfl rfl rfl ?_
    refine r_callV hk [.ref 44, .int x] [] rfl rfl rfl rfl rfl rfl rfl (by omega) (by rw [ex]; exact m_whereTo (w := gTh w) (by omega) hN hN1 hM hM1 hst la hla (by omega) hk8 hk1 hs5 hs1) ?_
    rintro _ _ ⟨rfl, rfl⟩
    have hw0 : gwh (w 44) a N M la t k s = -1 ∨ gin (gwh (w 44) a N M la t k s) 5 := gwhere_r _ _ _ _ _
    change gX d 145 18 _ [.int (gwh (w 44) a N M la t k s)] _ _
    iterate 2 refine r_step hk rfl rfl rfl ?_
    first | exact no (fun ⟨t2, k2, s2, h1, h2, h3, h4, h5, h6, h7, h8⟩ => hs ⟨t2, h1, h4, h5⟩) | (rcases hw0 with hw0 | ⟨s2, hs2, hw0⟩; (rw [hw0]; exact no (fun ⟨t2, k2, s2, h1, h2, h3, h4, h5, h6, h7, h8⟩ => by have e1 := nI_inj (ex.symm.trans h4) (by omega) (by omega); subst e1; have e2 := nI_inj (hk1.symm.trans h6) (by omega) (by omega); subst e2; have e3 := nI_inj (hs1.symm.trans h7) (by omega) (by omega); subst e3; exact h8 hw0)); (rw [hw0]; exact go t k s s2 ht hk8 hs5 hs2 ex hon hk1 hs1 hw0))
  · refine r_step hk rfl rfl rfl ?_
    refine r_eq (fun _ => ?_) (fun hq9 => absurd (by decide) hq9)
    iterate 2 refine r_step hk rfl rfl rfl ?_
    first | exact no (fun ⟨t2, k2, s2, h1, h2, h3, h4, h5, h6, h7, h8⟩ => hs ⟨t2, h1, h4, h5⟩) | (rcases hw0 with hw0 | ⟨s2, hs2, hw0⟩; (rw [hw0]; exact no (fun ⟨t2, k2, s2, h1, h2, h3, h4, h5, h6, h7, h8⟩ => by have e1 := nI_inj (ex.symm.trans h4) (by omega) (by omega); subst e1; have e2 := nI_inj (hk1.symm.trans h6) (by omega) (by omega); subst e2; have e3 := nI_inj (hs1.symm.trans h7) (by omega) (by omega); subst e3; exact h8 hw0)); (rw [hw0]; exact go t k s s2 ht hk8 hs5 hs2 ex hon hk1 hs1 hw0))
end GM9

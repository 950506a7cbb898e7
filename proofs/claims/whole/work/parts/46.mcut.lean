-- deps: 37 38 39 43 44 45
/-! ===== the reference: tokens in its rows ===== -/
theorem lN_inj {m n : Nat} (h : lN m = lN n) (hm : m < 2 ^ 64) (hn : n < 2 ^ 64) : m = n := by
  have e : ∀ k, k < 2 ^ 64 → (lN k).toBitVec.toNat = k := by
    intro k hk
    show (BitVec.ofNat 64 k).toNat = k
    rw [BitVec.toNat_ofNat]; exact Nat.mod_eq_of_lt hk
  rw [← e m hm, ← e n hn, h]
def gagb (X : List Nat) (b b' : Nat → Nat → Int64) : Prop := ∀ j, j ∉ X → b' j = b j
theorem gagb_rf {X : List Nat} {b : Nat → Nat → Int64} : gagb X b b := fun _ _ => rfl
theorem gagb_up {X : List Nat} {b b1 : Nat → Nat → Int64} (h1 : gagb X b b1) {j s : Nat} {x : Int64} (hj : j ∈ X) : gagb X b (upd2 b1 j s x) := fun i hi => by
  have : i ≠ j := fun e => hi (e ▸ hj)
  rw [upd2_row _ _ _ _ this]; exact h1 i hi
def kTr (a : Nat → Nat → Int32) (b : Nat → Nat → Int64) (i : Nat) (t : kTok) : Prop := a 47 i = nI t.2.2 ∧ ((t.1 = 301 ∧ a 46 i = 0) ∨ (∃ k, k < 12 ∧ t.1 = 200 + k ∧ a 46 i = 1 ∧ b 48 i = lN (kwd.getD k 0)) ∨ (t.1 = 302 ∧ (a 46 i = 4 ∨ (a 46 i = 1 ∧ ∃ v, v < 2 ^ 62 ∧ b 48 i = lN v ∧ ∀ k, k < 12 → v ≠ kwd.getD k 0))) ∨ (t.1 = 300 ∧ a 46 i = 2 ∧ b 48 i = lN t.2.1) ∨ (ksg t.1 = true ∧ a 46 i = 3 ∧ b 48 i = lN t.1))
def kTrs (a : Nat → Nat → Int32) (b : Nat → Nat → Int64) : Nat → List kTok → Prop
  | _, [] => True
  | i, t :: r => kTr a b i t ∧ kTrs a b (i + 1) r
theorem kwd_lt : ∀ k, k < 12 → kwd.getD k 0 < 2 ^ 62 := by decide +kernel
theorem ksg_r {c : Nat} (h : ksg c = true) : c < 62 ∧ 40 ≤ c := by have := of_decide_eq_true h; omega
theorem kTr_sign {a : Nat → Nat → Int32} {b : Nat → Nat → Int64} {i : Nat} {t : kTok} (h : kTr a b i t) {c : Nat} (hc : ksg c = true) : (a 46 i = 3 ∧ b 48 i = lN c) ↔ t.1 = c := by
  have hr := ksg_r hc
  obtain ⟨-, ⟨h1, h2⟩ | ⟨k, hk, h1, h2, h3⟩ | ⟨h1, h2⟩ | ⟨h1, h2, h3⟩ | ⟨h1, h2, h3⟩⟩ := h
  · rw [h2]; exact ⟨fun z => absurd z.1 (by decide), fun z => by omega⟩
  · rw [h2]; exact ⟨fun z => absurd z.1 (by decide), fun z => by omega⟩
  · refine ⟨fun z => ?_, fun z => by omega⟩
    rcases h2 with h2 | h2
    · rw [h2] at z; exact absurd z.1 (by decide)
    · rw [h2.1] at z; exact absurd z.1 (by decide)
  · rw [h2]; exact ⟨fun z => absurd z.1 (by decide), fun z => by omega⟩
  · have := ksg_r h1
    refine ⟨fun z => ?_, fun z => ⟨h2, by rw [h3, z]⟩⟩
    exact lN_inj (h3.symm.trans z.2) (by omega) (by omega)
theorem kTr_word {a : Nat → Nat → Int32} {b : Nat → Nat → Int64} {i : Nat} {t : kTok} (h : kTr a b i t) {c : Nat} (hc : c < 12) : (a 46 i = 1 ∧ b 48 i = lN (kwd.getD c 0)) ↔ t.1 = 200 + c := by
  obtain ⟨-, ⟨h1, h2⟩ | ⟨k, hk, h1, h2, h3⟩ | ⟨h1, h2⟩ | ⟨h1, h2, h3⟩ | ⟨h1, h2, h3⟩⟩ := h
  · rw [h2]; exact ⟨fun z => absurd z.1 (by decide), fun z => by omega⟩
  · have e1 := kwd_lt k hk
    have e2 := kwd_lt c hc
    refine ⟨fun z => ?_, fun z => ⟨h2, ?_⟩⟩
    · have := kwd_ne k hk c hc (lN_inj (h3.symm.trans z.2) (by omega) (by omega))
      omega
    · have : k = c := by omega
      rw [h3, this]
  · refine ⟨fun z => ?_, fun z => by omega⟩
    rcases h2 with h2 | ⟨h2, v, hv, h3, h4⟩
    · rw [h2] at z; exact absurd z.1 (by decide)
    · have e2 := kwd_lt c hc
      exact absurd (lN_inj (h3.symm.trans z.2) (by omega) (by omega)) (h4 c hc)
  · rw [h2]; exact ⟨fun z => absurd z.1 (by decide), fun z => by omega⟩
  · have := ksg_r h1
    rw [h2]; exact ⟨fun z => absurd z.1 (by decide), fun z => by omega⟩
theorem kTr_num {a : Nat → Nat → Int32} {b : Nat → Nat → Int64} {i : Nat} {t : kTok} (h : kTr a b i t) : (a 46 i = 2 ↔ t.1 = 300) ∧ (t.1 = 300 → b 48 i = lN t.2.1) := by
  obtain ⟨-, ⟨h1, h2⟩ | ⟨k, hk, h1, h2, h3⟩ | ⟨h1, h2⟩ | ⟨h1, h2, h3⟩ | ⟨h1, h2, h3⟩⟩ := h
  · rw [h2]; exact ⟨⟨fun z => absurd z (by decide), fun z => by omega⟩, fun z => by omega⟩
  · rw [h2]; exact ⟨⟨fun z => absurd z (by decide), fun z => by omega⟩, fun z => by omega⟩
  · refine ⟨⟨fun z => ?_, fun z => by omega⟩, fun z => by omega⟩
    rcases h2 with h2 | h2
    · rw [h2] at z; exact absurd z (by decide)
    · rw [h2.1] at z; exact absurd z (by decide)
  · exact ⟨⟨fun _ => h1, fun _ => h2⟩, fun _ => h3⟩
  · have := ksg_r h1
    rw [h2]; exact ⟨⟨fun z => absurd z (by decide), fun z => by omega⟩, fun z => by omega⟩
theorem kTr_end {a : Nat → Nat → Int32} {b : Nat → Nat → Int64} {i : Nat} {t : kTok} (h : kTr a b i t) : a 46 i = 0 ↔ t.1 = 301 := by
  obtain ⟨-, ⟨h1, h2⟩ | ⟨k, hk, h1, h2, h3⟩ | ⟨h1, h2⟩ | ⟨h1, h2, h3⟩ | ⟨h1, h2, h3⟩⟩ := h
  · exact ⟨fun _ => h1, fun _ => h2⟩
  · rw [h2]; exact ⟨fun z => absurd z (by decide), fun z => by omega⟩
  · refine ⟨fun z => ?_, fun z => by omega⟩
    rcases h2 with h2 | h2
    · rw [h2] at z; exact absurd z (by decide)
    · rw [h2.1] at z; exact absurd z (by decide)
  · rw [h2]; exact ⟨fun z => absurd z (by decide), fun z => by omega⟩
  · have := ksg_r h1
    rw [h2]; exact ⟨fun z => absurd z (by decide), fun z => by omega⟩
theorem kTr_cg {a a' : Nat → Nat → Int32} {b b' : Nat → Nat → Int64} {i : Nat} {t : kTok} (e1 : a' 46 i = a 46 i) (e2 : a' 47 i = a 47 i) (e3 : b' 48 i = b 48 i) (h : kTr a b i t) : kTr a' b' i t := by
  unfold kTr
  rw [e1, e2, e3]; exact h
theorem kTrs_cg {a a' : Nat → Nat → Int32} {b b' : Nat → Nat → Int64} : ∀ (ts : List kTok) (i : Nat), (∀ j, i ≤ j → j < i + ts.length → a' 46 j = a 46 j ∧ a' 47 j = a 47 j ∧ b' 48 j = b 48 j) → kTrs a b i ts → kTrs a' b' i ts := by
  intro ts
  induction ts with
  | nil => intro i _ _; trivial
  | cons t r ih =>
    intro i h ht
    obtain ⟨e1, e2, e3⟩ := h i (Nat.le_refl _) (by simp)
    exact ⟨kTr_cg e1 e2 e3 ht.1, ih (i + 1) (fun j h1 h2 => h j (by omega) (by simp; omega)) ht.2⟩
theorem kTrs_app {a : Nat → Nat → Int32} {b : Nat → Nat → Int64} {t : kTok} : ∀ (ts : List kTok) (i : Nat), kTrs a b i ts → kTr a b (i + ts.length) t → kTrs a b i (ts ++ [t]) := by
  intro ts
  induction ts with
  | nil => intro i _ h; exact ⟨h, trivial⟩
  | cons x r ih =>
    intro i h ht
    refine ⟨h.1, ih (i + 1) h.2 ?_⟩
    have e : i + 1 + r.length = i + (x :: r).length := by simp; omega
    rw [e]; exact ht
theorem ktl_bl {f : Nat → Nat} {len p : Nat} (hp : p < len) (h : kbl (f p) = true) : ktl f len p = ktl f len (p + 1) := by
  have e := kend_t (P := kbl) hp h
  have ek : ktk f len p = ktk f len (p + 1) := by unfold ktk; rw [e]
  by_cases e2 : len ≤ kend kbl f len p
  · rw [ktl_e (p := p) (by omega) e2, ktl_e (p := p + 1) (by omega) (by rw [← e]; exact e2)]
  · rw [ktl_c (p := p) (by omega) e2, ktl_c (p := p + 1) (by omega) (by rw [← e]; exact e2), ek]
section GM14
variable {w a : Nat → Nat → Int32} {b : Nat → Nat → Int64} {r : Nat → Nat → Nat} {q : Nat → Nat → Option Nat} {y : gH} {n u : Nat} {d : Nat}
set_option maxRecDepth 2000 in
theorem m_cutAll (hd : 2 ≤ d) {len : Nat} {f : Nat → Nat} (hl : w 44 2 = nI len) (hl6 : len ≤ 600) (hf : ∀ i, i < len → a 45 i = nI (f i) ∧ f i < 128) : gE d 97 [.ref 44] (n, u, HP w a b r q y) (fun v' S' => v' = none ∧ ∃ a' b', gag [46, 47] a a' ∧ gagb [48] b b' ∧ kTrs a' b' 0 (ktl f len 0) ∧ S' = (n, u, HP (upd2 (upd2 (upd2 (upd2 w 44 3 (nI len)) 44 2 0) 44 7 0) 44 8 0) a' b' r q y)) := by
  have hk : gMT[97]? = some gro_97 := rfl
  refine r_inQ hk [some (.ref 44), none, none, none, none, none, none] (Nat.le_of_ble_eq_true rfl) rfl ?_
  intro Q hQ
  have e3 : upd2 (upd2 w 44 3 (nI len)) 44 2 0 44 3 = nI len := by rw [upd2_col _ _ _ _ (by decide), upd2_same]
  -- the loop over the tape
  have loop : ∀ (k p : Nat), len - p ≤ k → p ≤ len → ∀ (a1 : Nat → Nat → Int32) (b1 : Nat → Nat → Int64) (done : List kTok) (l3 l4 l5 l6 : Option Value), gwide l3 = false → gwide l4 = false → done.length ≤ p → gag [46, 47] a a1 → gagb [48] b b1 → kTrs a1 b1 0 done → done ++ ktl f len p = ktl f len 0 →
      gX d 97 17 [some (.ref 44), some (.int (nI done.length)), some (.int (nI p)), l3, l4, l5, l6] [] (n, u, HP (upd2 (upd2 w 44 3 (nI len)) 44 2 0) a1 b1 r q y) Q := by
    intro k
    induction k with
    | zero =>
      intro p hk0 hp a1 b1 done l3 l4 l5 l6 hw3 hw4 hdn hag hagb hts happ
      have ep : p = len := by omega
      rw [ktl_e hp (by rw [kend_ge (by omega)]; omega)] at happ
      iterate 4 refine r_step hk rfl rfl rfl ?_
      refine r_ge (fun _ => ?_) (fun hq9 => absurd (show nI len ≤ nI p from nI_le (by omega) (by omega)) hq9)
      iterate 4 refine r_step hk rfl rfl rfl ?_
      refine r_is hk (done.length) rfl rfl rfl rfl (by omega) rfl rfl ?_
      iterate 5 refine r_step hk rfl rfl rfl ?_
      refine r_is hk (done.length) rfl rfl rfl rfl (by omega) rfl rfl ?_
      iterate 2 refine r_step hk rfl rfl rfl ?_
      refine r_putI hk rfl rfl rfl rfl ?_
      iterate 2 refine r_step hk rfl rfl rfl ?_
      refine r_putI hk rfl rfl rfl rfl ?_
      refine r_ret hk rfl rfl ?_
      refine hQ _ _ ⟨rfl, _, b1, gag_up (gag_up hag (by decide)) (by decide), hagb, ?_, rfl⟩
      rw [← happ]
      refine kTrs_app done 0 (kTrs_cg done 0 (fun j h1 h2 => ?_) hts) ?_
      (have hne : ¬ j = done.length := (by omega); refine ⟨?_, ?_, rfl⟩; (rw [upd2_row _ _ _ _ (by decide), upd2_at, if_neg hne]); (rw [upd2_at, if_neg hne, upd2_row _ _ _ _ (by decide)]))
      rw [Nat.zero_add]
      exact ⟨upd2_same _ _ _ _, Or.inl ⟨rfl, by rw [upd2_row _ _ _ _ (by decide)]; exact upd2_same _ _ _ _⟩⟩
    | succ k ih =>
      intro p hk0 hp a1 b1 done l3 l4 l5 l6 hw3 hw4 hdn hag hagb hts happ
      by_cases hpl : p = len
      · exact ih p (by omega) hp a1 b1 done l3 l4 l5 l6 hw3 hw4 hdn hag hagb hts happ
      have hp2 : p < len := by omega
      obtain ⟨hfp, hf8⟩ := hf p hp2
      have e45 : a1 45 = a 45 := hag 45 (by decide)
      have h45 : a1 45 p = nI (f p) := by rw [e45]; exact hfp
      have h22 : ¬ nI len ≤ nI p := nI_ge hp2 (by omega)
      have q10 : nI (f p) = 10 ↔ f p = 10 := nI_eq (b := 10) (by omega) (by omega)
      have q32 : nI (f p) = 32 ↔ f p = 32 := nI_eq (b := 32) (by omega) (by omega)
      by_cases hbl : kbl (f p) = true
      · have happ2 : done ++ ktl f len (p + 1) = ktl f len 0 := by rw [← ktl_bl hp2 hbl]; exact happ
        have hor := of_decide_eq_true hbl
        iterate 4 refine r_step hk rfl rfl rfl ?_
        refine r_ge (fun hq9 => absurd hq9 h22) (fun _ => ?_)
        iterate 3 refine r_step hk rfl rfl rfl ?_
        refine r_ia hk (p) rfl rfl rfl (by omega) rfl ?_
        iterate 4 refine r_step hk rfl rfl rfl ?_
        refine r_eq (fun h35 => ?_) (fun h35 => ?_)
        · iterate 2 refine r_step hk rfl rfl rfl ?_
          first | exact ih (p + 1) (by omega) (by omega) a1 b1 done _ _ _ _ rfl hw4 (by omega) hag hagb hts happ2 | (rw [nI_1]; exact ih (p + 1) (by omega) (by omega) a1 b1 done _ _ _ _ rfl hw4 (by omega) hag hagb hts happ2)
        · iterate 3 refine r_step hk rfl rfl rfl ?_
          refine r_ne (fun h41 => ?_) (fun h41 => ?_)
          · exfalso
            rcases hor with h | h
            exact h35 (h45.trans (q10.mpr h))
            exact h41 (h45.trans (q32.mpr h))
          · iterate 2 refine r_step hk rfl rfl rfl ?_
            first | exact ih (p + 1) (by omega) (by omega) a1 b1 done _ _ _ _ rfl hw4 (by omega) hag hagb hts happ2 | (rw [nI_1]; exact ih (p + 1) (by omega) (by omega) a1 b1 done _ _ _ _ rfl hw4 (by omega) hag hagb hts happ2)
      · have hke : kend kbl f len p = p := kend_f hp2 hbl
        have hnb : ¬ (f p = 10 ∨ f p = 32) := fun z => hbl (decide_eq_true z)
        have htl : ktl f len p = (ktk f len p).1 :: ktl f len (ktk f len p).2 := ktl_c hp (by rw [hke]; omega)
        have hkb := ktk_ne hp (by rw [hke]; omega)
        have fin : ∀ (e : Nat) (a3 : Nat → Nat → Int32) (v : Int64) (l3 l4 : Option Value), gwide l3 = false → gwide l4 = false → (ktk f len p).2 = e → gag [46, 47] a a3 → (∀ j, j ≠ done.length → a3 46 j = a1 46 j ∧ a3 47 j = a1 47 j) → kTr a3 (upd2 b1 48 done.length v) done.length (ktk f len p).1 →
            gX d 97 265 [some (.ref 44), some (.int (nI done.length)), some (.int (nI e)), l3, l4, some (.long v), none] [] (n, u, HP (upd2 (upd2 w 44 3 (nI len)) 44 2 0) a3 b1 r q y) Q := by
          intro e a3 v l3 l4 hw3 hw4 he hag3 hoth htr
          iterate 4 refine r_step hk rfl rfl rfl ?_
          refine r_ls hk (done.length) rfl rfl rfl rfl (by omega) rfl rfl ?_
          iterate 2 refine r_step hk rfl rfl rfl ?_
          have hih := ih e (by omega) (by omega) a3 (upd2 b1 48 done.length v) (done ++ [(ktk f len p).1]) l3 l4 (some (.long v)) none hw3 hw4 (by simp; omega) hag3 (gagb_up hagb (by decide)) (kTrs_app done 0 (kTrs_cg done 0 (fun j h1 h2 => ⟨(hoth j (by omega)).1, (hoth j (by omega)).2, by rw [upd2_at, if_neg (by omega)]⟩) hts) (by rw [Nat.zero_add]; exact htr)) (by rw [← happ, htl, ← he]; simp)
          rw [List.length_append, List.length_singleton, ← nI_1] at hih
          exact hih
        have hsub : ∀ z, p ≤ z → nI z - nI p = nI (z - p) := fun z hz => pk_sub hz
        -- letters
        have lt : klt (f p) = true → gX d 97 70 [some (.ref 44), some (.int (nI done.length)), some (.int (nI p)), some (.int (a1 45 p)), some (.int (nI p)), some (.long (lN 0)), none] [] (n, u, HP (upd2 (upd2 w 44 3 (nI len)) 44 2 0) (upd2 a1 47 done.length (nI p)) b1 r q y) Q := by
          intro hlp
          have htk : ktk f len p = ((kword f p (kend klt f len p), 0, p), kend klt f len p) := by
            unfold ktk
            rw [hke, if_neg (by omega), if_pos hlp]
          have ex : ∀ z, p ≤ z → z ≤ len → (∀ i, p ≤ i → i < z → klt (f i) = true) → kend klt f len p = z → gX d 97 129 [some (.ref 44), some (.int (nI done.length)), some (.int (nI z)), some (.int (a1 45 p)), some (.int (nI p)), some (.long (lN (khs (fun j => f (p + j) - 96) (if z - p < 8 then z - p else 8)))), none] [] (n, u, HP (upd2 (upd2 w 44 3 (nI len)) 44 2 0) (upd2 a1 47 done.length (nI p)) b1 r q y) Q := by
            intro z hpz hzl hall hkz
            have h8 : nI z - nI p ≤ 8 ↔ z - p ≤ 8 := by rw [hsub z hpz]; exact nI_leI (b := 8) (by omega) (by omega)
            rw [hkz] at htk
            iterate 8 refine r_step hk rfl rfl rfl ?_
            refine r_le (fun h140 => ?_) (fun h140 => ?_)
            · refine r_step hk rfl rfl rfl ?_
              refine r_is hk (done.length) rfl rfl rfl rfl (by omega) rfl rfl ?_
              refine r_step hk rfl rfl rfl ?_
              refine fin z _ _ _ _ rfl rfl (by rw [htk]) (gag_up (gag_up hag (by decide)) (by decide)) (fun j hj => ?_) ?_
              (refine ⟨?_, ?_⟩; (rw [upd2_at, if_neg hj, upd2_row _ _ _ _ (by decide)]); (rw [upd2_row _ _ _ _ (by decide), upd2_at, if_neg hj]))
              rw [htk]
              refine ⟨by rw [upd2_row _ _ _ _ (by decide)]; exact upd2_same _ _ _ _, ?_⟩
              first | (have h8' : ¬ z - p ≤ 8 := mt h8.mpr h140; refine Or.inr (Or.inr (Or.inl ⟨?_, Or.inl (upd2_same _ _ _ _)⟩)); show kword f p z = 302; unfold kword; rw [if_pos (by omega)]) | (have h8' : z - p ≤ 8 := h8.mp h140; have hlj : ∀ j, j < z - p → klt (f (p + j)) = true := (fun j hj => hall (p + j) (by omega) (by omega)); have hv : (if z - p < 8 then z - p else 8) = z - p := (by split <;> omega); have hlt := khs_lt (g := fun j => f (p + j) - 96) (z - p) (fun j hj => by have := of_decide_eq_true (hlj j hj); omega); have hpw : 37 ^ (z - p) ≤ 37 ^ 8 := Nat.pow_le_pow_right (by omega) h8'; have h378 : (37 : Nat) ^ 8 < 2 ^ 62 := (by decide); rcases kword_r f p z with hk3 | hk3; (refine Or.inr (Or.inr (Or.inl ⟨hk3, Or.inr ⟨upd2_same _ _ _ _, khs (fun j => f (p + j) - 96) (z - p), by omega, by rw [upd2_same, hv], fun k hk2 hkk => ?_⟩⟩)); have := (kword_iff (f := f) (p := p) (e := z) hk2 h8' hpz hlj).mpr hkk; omega); (refine Or.inr (Or.inl ⟨kword f p z - 200, by omega, by show kword f p z = _; omega, upd2_same _ _ _ _, ?_⟩); rw [upd2_same, hv, (kword_iff (f := f) (p := p) (e := z) (i := kword f p z - 200) (by omega) h8' hpz hlj).mp (by omega)]))
            · iterate 2 refine r_step hk rfl rfl rfl ?_
              refine r_is hk (done.length) rfl rfl rfl rfl (by omega) rfl rfl ?_
              refine r_step hk rfl rfl rfl ?_
              refine fin z _ _ _ _ rfl rfl (by rw [htk]) (gag_up (gag_up hag (by decide)) (by decide)) (fun j hj => ?_) ?_
              (refine ⟨?_, ?_⟩; (rw [upd2_at, if_neg hj, upd2_row _ _ _ _ (by decide)]); (rw [upd2_row _ _ _ _ (by decide), upd2_at, if_neg hj]))
              rw [htk]
              refine ⟨by rw [upd2_row _ _ _ _ (by decide)]; exact upd2_same _ _ _ _, ?_⟩
              first | (have h8' : ¬ z - p ≤ 8 := mt h8.mpr h140; refine Or.inr (Or.inr (Or.inl ⟨?_, Or.inl (upd2_same _ _ _ _)⟩)); show kword f p z = 302; unfold kword; rw [if_pos (by omega)]) | (have h8' : z - p ≤ 8 := h8.mp h140; have hlj : ∀ j, j < z - p → klt (f (p + j)) = true := (fun j hj => hall (p + j) (by omega) (by omega)); have hv : (if z - p < 8 then z - p else 8) = z - p := (by split <;> omega); have hlt := khs_lt (g := fun j => f (p + j) - 96) (z - p) (fun j hj => by have := of_decide_eq_true (hlj j hj); omega); have hpw : 37 ^ (z - p) ≤ 37 ^ 8 := Nat.pow_le_pow_right (by omega) h8'; have h378 : (37 : Nat) ^ 8 < 2 ^ 62 := (by decide); rcases kword_r f p z with hk3 | hk3; (refine Or.inr (Or.inr (Or.inl ⟨hk3, Or.inr ⟨upd2_same _ _ _ _, khs (fun j => f (p + j) - 96) (z - p), by omega, by rw [upd2_same, hv], fun k hk2 hkk => ?_⟩⟩)); have := (kword_iff (f := f) (p := p) (e := z) hk2 h8' hpz hlj).mpr hkk; omega); (refine Or.inr (Or.inl ⟨kword f p z - 200, by omega, by show kword f p z = _; omega, upd2_same _ _ _ _, ?_⟩); rw [upd2_same, hv, (kword_iff (f := f) (p := p) (e := z) (i := kword f p z - 200) (by omega) h8' hpz hlj).mp (by omega)]))
          have lp : ∀ (kk z : Nat), len - z ≤ kk → p ≤ z → z ≤ len → (∀ i, p ≤ i → i < z → klt (f i) = true) → kend klt f len p = kend klt f len z → gX d 97 70 [some (.ref 44), some (.int (nI done.length)), some (.int (nI z)), some (.int (a1 45 p)), some (.int (nI p)), some (.long (lN (khs (fun j => f (p + j) - 96) (if z - p < 8 then z - p else 8)))), none] [] (n, u, HP (upd2 (upd2 w 44 3 (nI len)) 44 2 0) (upd2 a1 47 done.length (nI p)) b1 r q y) Q := by
            intro kk
            induction kk with
            | zero =>
              intro z hk1 hpz hzl hall hkz
              have ez : z = len := by omega
              subst ez
              iterate 4 refine r_step hk rfl rfl rfl ?_
              refine r_ge (fun _ => ?_) (fun hq9 => absurd (show nI z ≤ nI z from nI_le (Nat.le_refl _) (by omega)) hq9)
              exact ex z hpz hzl hall (by rw [hkz, kend_ge (Nat.le_refl _)])
            | succ kk ihk =>
              intro z hk1 hpz hzl hall hkz
              by_cases hzz : z = len
              · exact ihk z (by omega) hpz hzl hall hkz
              have hz2 : z < len := by omega
              obtain ⟨hfz, hfz8⟩ := hf z hz2
              have h45z : upd2 a1 47 done.length (nI p) 45 z = nI (f z) := by rw [upd2_row _ _ _ _ (by decide), e45]; exact hfz
              have h75 : ¬ nI len ≤ nI z := nI_ge hz2 (by omega)
              have h8 : (8 : Int32) ≤ nI z - nI p ↔ 8 ≤ z - p := by rw [hsub z hpz]; exact nI_leI (a := 8) (by omega) (by omega)
              iterate 4 refine r_step hk rfl rfl rfl ?_
              refine r_ge (fun hq9 => absurd hq9 h75) (fun _ => ?_)
              iterate 3 refine r_step hk rfl rfl rfl ?_
              refine r_ia hk (z) rfl rfl rfl (by omega) rfl ?_
              refine r_callS hk [.int (upd2 a1 47 done.length (nI p) 45 z)] [] rfl rfl rfl rfl rfl (by omega) (by rw [h45z]; exact m_isLetter (by omega) _) ?_
              rintro _ _ ⟨⟨hl2, rfl⟩ | ⟨hl2, rfl⟩, rfl⟩
              · refine r_step hk rfl rfl rfl ?_
                refine r_eq (fun hq9 => absurd hq9 (by decide)) (fun _ => ?_)
                iterate 5 refine r_step hk rfl rfl rfl ?_
                refine r_ge (fun h96 => ?_) (fun h96 => ?_)
                · iterate 4 refine r_step hk rfl rfl rfl ?_
                  have hnx := ihk (z + 1) (by omega) (by omega) (by omega) (fun i h1 h2 => by by_cases e : i = z; (subst e; exact hl2); exact hall i h1 (by omega)) (by rw [hkz, kend_t hz2 hl2])
                  rw [← nI_1] at hnx
                  first | (have h8' : 8 ≤ z - p := h8.mp h96; rw [if_neg (by omega)] at hnx ⊢; exact hnx) | (have h8' : ¬ 8 ≤ z - p := mt h8.mpr h96; have hst : khs (fun j => f (p + j) - 96) (if z + 1 - p < 8 then z + 1 - p else 8) = 37 * khs (fun j => f (p + j) - 96) (if z - p < 8 then z - p else 8) + (f z - 96) := (by rw [show (if z + 1 - p < 8 then z + 1 - p else 8) = (z - p) + 1 by split <;> omega, if_pos (by omega)]; simp only [khs]; rw [show p + (z - p) = z by omega]); rw [hst, ← lN_add, ← lN_mul, ← nI_l (n := f z - 96) (by omega)] at hnx; exact hnx)
                · iterate 6 refine r_step hk rfl rfl rfl ?_
                  refine r_ia hk (z) rfl rfl rfl (by omega) rfl ?_
                  refine r_callS hk [.int (upd2 a1 47 done.length (nI p) 45 z)] [.long (37 * lN (khs (fun j => f (p + j) - 96) (if z - p < 8 then z - p else 8)))] rfl rfl rfl rfl rfl (by omega) (by rw [h45z]; exact m_rank (by omega) (by omega) hl2 _) ?_
                  rintro _ _ ⟨rfl, rfl⟩
                  iterate 6 refine r_step hk rfl rfl rfl ?_
                  have hnx := ihk (z + 1) (by omega) (by omega) (by omega) (fun i h1 h2 => by by_cases e : i = z; (subst e; exact hl2); exact hall i h1 (by omega)) (by rw [hkz, kend_t hz2 hl2])
                  rw [← nI_1] at hnx
                  first | (have h8' : 8 ≤ z - p := h8.mp h96; rw [if_neg (by omega)] at hnx ⊢; exact hnx) | (have h8' : ¬ 8 ≤ z - p := mt h8.mpr h96; have hst : khs (fun j => f (p + j) - 96) (if z + 1 - p < 8 then z + 1 - p else 8) = 37 * khs (fun j => f (p + j) - 96) (if z - p < 8 then z - p else 8) + (f z - 96) := (by rw [show (if z + 1 - p < 8 then z + 1 - p else 8) = (z - p) + 1 by split <;> omega, if_pos (by omega)]; simp only [khs]; rw [show p + (z - p) = z by omega]); rw [hst, ← lN_add, ← lN_mul, ← nI_l (n := f z - 96) (by omega)] at hnx; exact hnx)
              · refine r_step hk rfl rfl rfl ?_
                refine r_eq (fun _ => ?_) (fun hq9 => absurd (by decide) hq9)
                exact ex z hpz hzl hall (by rw [hkz, kend_f hz2 hl2])
          have h0 := lp len p (by omega) (Nat.le_refl _) hp (fun i h1 h2 => by omega) rfl
          rw [show (if p - p < 8 then p - p else 8) = 0 by rw [Nat.sub_self]; rfl] at h0
          exact h0
        -- digits
        have dg : ¬ klt (f p) = true → kdg (f p) = true → gX d 97 159 [some (.ref 44), some (.int (nI done.length)), some (.int (nI p)), some (.int (a1 45 p)), some (.int (nI p)), some (.long (lN 0)), none] [] (n, u, HP (upd2 (upd2 w 44 3 (nI len)) 44 2 0) (upd2 a1 47 done.length (nI p)) b1 r q y) Q := by
          intro hlp hdp
          have htk : ktk f len p = ((if 4 < kend kdg f len p - p then 302 else 300, (if 4 < kend kdg f len p - p then 0 else knum f p (kend kdg f len p - p)), p), kend kdg f len p) := by
            unfold ktk
            rw [hke, if_neg (by omega), if_neg hlp, if_pos hdp]
          have ex : ∀ z, p ≤ z → z ≤ len → kend kdg f len p = z → gX d 97 218 [some (.ref 44), some (.int (nI done.length)), some (.int (nI z)), some (.int (a1 45 p)), some (.int (nI p)), some (.long (lN (knum f p (if z - p < 4 then z - p else 4)))), none] [] (n, u, HP (upd2 (upd2 w 44 3 (nI len)) 44 2 0) (upd2 a1 47 done.length (nI p)) b1 r q y) Q := by
            intro z hpz hzl hkz
            have h8 : nI z - nI p ≤ 4 ↔ z - p ≤ 4 := by rw [hsub z hpz]; exact nI_leI (b := 4) (by omega) (by omega)
            rw [hkz] at htk
            iterate 8 refine r_step hk rfl rfl rfl ?_
            refine r_le (fun h228 => ?_) (fun h228 => ?_)
            · refine r_step hk rfl rfl rfl ?_
              refine r_is hk (done.length) rfl rfl rfl rfl (by omega) rfl rfl ?_
              refine r_step hk rfl rfl rfl ?_
              refine fin z _ _ _ _ rfl rfl (by rw [htk]) (gag_up (gag_up hag (by decide)) (by decide)) (fun j hj => ?_) ?_
              (refine ⟨?_, ?_⟩; (rw [upd2_at, if_neg hj, upd2_row _ _ _ _ (by decide)]); (rw [upd2_row _ _ _ _ (by decide), upd2_at, if_neg hj]))
              rw [htk]
              refine ⟨by rw [upd2_row _ _ _ _ (by decide)]; exact upd2_same _ _ _ _, ?_⟩
              first | (have h8' : ¬ z - p ≤ 4 := mt h8.mpr h228; exact Or.inr (Or.inr (Or.inl ⟨if_pos (by omega), Or.inl (upd2_same _ _ _ _)⟩))) | (have h8' : z - p ≤ 4 := h8.mp h228; refine Or.inr (Or.inr (Or.inr (Or.inl ⟨if_neg (by omega), upd2_same _ _ _ _, ?_⟩))); rw [upd2_same, show (if z - p < 4 then z - p else 4) = z - p by split <;> omega]; show _ = lN (if 4 < z - p then 0 else knum f p (z - p)); rw [if_neg (by omega)])
            · iterate 2 refine r_step hk rfl rfl rfl ?_
              refine r_is hk (done.length) rfl rfl rfl rfl (by omega) rfl rfl ?_
              refine r_step hk rfl rfl rfl ?_
              refine fin z _ _ _ _ rfl rfl (by rw [htk]) (gag_up (gag_up hag (by decide)) (by decide)) (fun j hj => ?_) ?_
              (refine ⟨?_, ?_⟩; (rw [upd2_at, if_neg hj, upd2_row _ _ _ _ (by decide)]); (rw [upd2_row _ _ _ _ (by decide), upd2_at, if_neg hj]))
              rw [htk]
              refine ⟨by rw [upd2_row _ _ _ _ (by decide)]; exact upd2_same _ _ _ _, ?_⟩
              first | (have h8' : ¬ z - p ≤ 4 := mt h8.mpr h228; exact Or.inr (Or.inr (Or.inl ⟨if_pos (by omega), Or.inl (upd2_same _ _ _ _)⟩))) | (have h8' : z - p ≤ 4 := h8.mp h228; refine Or.inr (Or.inr (Or.inr (Or.inl ⟨if_neg (by omega), upd2_same _ _ _ _, ?_⟩))); rw [upd2_same, show (if z - p < 4 then z - p else 4) = z - p by split <;> omega]; show _ = lN (if 4 < z - p then 0 else knum f p (z - p)); rw [if_neg (by omega)])
          have lp : ∀ (kk z : Nat), len - z ≤ kk → p ≤ z → z ≤ len → (∀ i, p ≤ i → i < z → kdg (f i) = true) → kend kdg f len p = kend kdg f len z → gX d 97 159 [some (.ref 44), some (.int (nI done.length)), some (.int (nI z)), some (.int (a1 45 p)), some (.int (nI p)), some (.long (lN (knum f p (if z - p < 4 then z - p else 4)))), none] [] (n, u, HP (upd2 (upd2 w 44 3 (nI len)) 44 2 0) (upd2 a1 47 done.length (nI p)) b1 r q y) Q := by
            intro kk
            induction kk with
            | zero =>
              intro z hk1 hpz hzl hall hkz
              have ez : z = len := by omega
              subst ez
              iterate 4 refine r_step hk rfl rfl rfl ?_
              refine r_ge (fun _ => ?_) (fun hq9 => absurd (show nI z ≤ nI z from nI_le (Nat.le_refl _) (by omega)) hq9)
              exact ex z hpz hzl (by rw [hkz, kend_ge (Nat.le_refl _)])
            | succ kk ihk =>
              intro z hk1 hpz hzl hall hkz
              by_cases hzz : z = len
              · exact ihk z (by omega) hpz hzl hall hkz
              have hz2 : z < len := by omega
              obtain ⟨hfz, hfz8⟩ := hf z hz2
              have h45z : upd2 a1 47 done.length (nI p) 45 z = nI (f z) := by rw [upd2_row _ _ _ _ (by decide), e45]; exact hfz
              have h75 : ¬ nI len ≤ nI z := nI_ge hz2 (by omega)
              have h8 : (4 : Int32) ≤ nI z - nI p ↔ 4 ≤ z - p := by rw [hsub z hpz]; exact nI_leI (a := 4) (by omega) (by omega)
              iterate 4 refine r_step hk rfl rfl rfl ?_
              refine r_ge (fun hq9 => absurd hq9 h75) (fun _ => ?_)
              iterate 3 refine r_step hk rfl rfl rfl ?_
              refine r_ia hk (z) rfl rfl rfl (by omega) rfl ?_
              refine r_callS hk [.int (upd2 a1 47 done.length (nI p) 45 z)] [] rfl rfl rfl rfl rfl (by omega) (by rw [h45z]; exact m_isDigit (by omega) _) ?_
              rintro _ _ ⟨⟨hl2, rfl⟩ | ⟨hl2, rfl⟩, rfl⟩
              · refine r_step hk rfl rfl rfl ?_
                refine r_eq (fun hq9 => absurd hq9 (by decide)) (fun _ => ?_)
                iterate 5 refine r_step hk rfl rfl rfl ?_
                refine r_ge (fun h184 => ?_) (fun h184 => ?_)
                · iterate 4 refine r_step hk rfl rfl rfl ?_
                  have hnx := ihk (z + 1) (by omega) (by omega) (by omega) (fun i h1 h2 => by by_cases e : i = z; (subst e; exact hl2); exact hall i h1 (by omega)) (by rw [hkz, kend_t hz2 hl2])
                  rw [← nI_1] at hnx
                  first | (have h8' : 4 ≤ z - p := h8.mp h184; rw [if_neg (by omega)] at hnx ⊢; exact hnx) | (have h8' : ¬ 4 ≤ z - p := mt h8.mpr h184; have hdz := of_decide_eq_true hl2; have hst : knum f p (if z + 1 - p < 4 then z + 1 - p else 4) = 10 * knum f p (if z - p < 4 then z - p else 4) + f z - 48 := (by rw [show (if z + 1 - p < 4 then z + 1 - p else 4) = (z - p) + 1 by split <;> omega, if_pos (by omega)]; simp only [knum]; rw [show p + (z - p) = z by omega]; omega); rw [hst, ← lN_sub (by omega), ← lN_add, ← lN_mul, ← nI_l (n := f z) (by omega), ← h45z] at hnx; exact hnx)
                · iterate 6 refine r_step hk rfl rfl rfl ?_
                  refine r_ia hk (z) rfl rfl rfl (by omega) rfl ?_
                  iterate 8 refine r_step hk rfl rfl rfl ?_
                  have hnx := ihk (z + 1) (by omega) (by omega) (by omega) (fun i h1 h2 => by by_cases e : i = z; (subst e; exact hl2); exact hall i h1 (by omega)) (by rw [hkz, kend_t hz2 hl2])
                  rw [← nI_1] at hnx
                  first | (have h8' : 4 ≤ z - p := h8.mp h184; rw [if_neg (by omega)] at hnx ⊢; exact hnx) | (have h8' : ¬ 4 ≤ z - p := mt h8.mpr h184; have hdz := of_decide_eq_true hl2; have hst : knum f p (if z + 1 - p < 4 then z + 1 - p else 4) = 10 * knum f p (if z - p < 4 then z - p else 4) + f z - 48 := (by rw [show (if z + 1 - p < 4 then z + 1 - p else 4) = (z - p) + 1 by split <;> omega, if_pos (by omega)]; simp only [knum]; rw [show p + (z - p) = z by omega]; omega); rw [hst, ← lN_sub (by omega), ← lN_add, ← lN_mul, ← nI_l (n := f z) (by omega), ← h45z] at hnx; exact hnx)
              · refine r_step hk rfl rfl rfl ?_
                refine r_eq (fun _ => ?_) (fun hq9 => absurd (by decide) hq9)
                exact ex z hpz hzl (by rw [hkz, kend_f hz2 hl2])
          have h0 := lp len p (by omega) (Nat.le_refl _) hp (fun i h1 h2 => by omega) rfl
          rw [show (if p - p < 4 then p - p else 4) = 0 by rw [Nat.sub_self]; rfl] at h0
          exact h0
        iterate 4 refine r_step hk rfl rfl rfl ?_
        refine r_ge (fun hq9 => absurd hq9 h22) (fun _ => ?_)
        iterate 3 refine r_step hk rfl rfl rfl ?_
        refine r_ia hk (p) rfl rfl rfl (by omega) rfl ?_
        iterate 4 refine r_step hk rfl rfl rfl ?_
        refine r_eq (fun hq9 => absurd hq9 (fun z => hnb (Or.inl (q10.mp (h45.symm.trans z))))) (fun _ => ?_)
        iterate 3 refine r_step hk rfl rfl rfl ?_
        refine r_ne (fun _ => ?_) (fun hq9 => absurd hq9 (fun z => hnb (Or.inr (q32.mp (h45.symm.trans z)))))
        iterate 8 refine r_step hk rfl rfl rfl ?_
        refine r_is hk (done.length) rfl rfl rfl rfl (by omega) rfl rfl ?_
        refine r_step hk rfl rfl rfl ?_
        refine r_callS hk [.int (a1 45 p)] [] rfl rfl rfl rfl rfl (by omega) (by rw [h45]; exact m_isLetter (by omega) _) ?_
        rintro _ _ ⟨⟨hlp, rfl⟩ | ⟨hlp, rfl⟩, rfl⟩
        · refine r_step hk rfl rfl rfl ?_
          refine r_eq (fun hq9 => absurd hq9 (by decide)) (fun _ => ?_)
          exact lt hlp
        · refine r_step hk rfl rfl rfl ?_
          refine r_eq (fun _ => ?_) (fun hq9 => absurd (by decide) hq9)
          refine r_step hk rfl rfl rfl ?_
          refine r_callS hk [.int (a1 45 p)] [] rfl rfl rfl rfl rfl (by omega) (by rw [h45]; exact m_isDigit (by omega) _) ?_
          rintro _ _ ⟨⟨hdp, rfl⟩ | ⟨hdp, rfl⟩, rfl⟩
          · refine r_step hk rfl rfl rfl ?_
            refine r_eq (fun hq9 => absurd hq9 (by decide)) (fun _ => ?_)
            exact dg hlp hdp
          · refine r_step hk rfl rfl rfl ?_
            refine r_eq (fun _ => ?_) (fun hq9 => absurd (by decide) hq9)
            iterate 7 refine r_step hk rfl rfl rfl ?_
            refine r_callS hk [.int (a1 45 p)] [.int (nI done.length), .ref 46] rfl rfl rfl rfl rfl (by omega) (by rw [h45]; exact m_isSignOf (by omega) _) ?_
            rintro _ _ ⟨⟨hsg, rfl⟩ | ⟨hsg, rfl⟩, rfl⟩
            · refine r_step hk rfl rfl rfl ?_
              refine r_eq (fun hq9 => absurd hq9 (by decide)) (fun _ => ?_)
              iterate 2 refine r_step hk rfl rfl rfl ?_
              refine r_is hk (done.length) rfl rfl rfl rfl (by omega) rfl rfl ?_
              refine r_step hk rfl rfl rfl ?_
              have htk : ktk f len p = ((if ksg (f p) = true then f p else 302, 0, p), p + 1) := (by unfold ktk; rw [hke, if_neg (by omega), if_neg hlp, if_neg hdp])
              rw [nI_1]
              refine fin (p + 1) _ _ _ _ rfl rfl (by rw [htk]) (gag_up (gag_up hag (by decide)) (by decide)) (fun j hj => ?_) ?_
              (refine ⟨?_, ?_⟩; (rw [upd2_at, if_neg hj, upd2_row _ _ _ _ (by decide)]); (rw [upd2_row _ _ _ _ (by decide), upd2_at, if_neg hj]))
              rw [htk]
              refine ⟨by rw [upd2_row _ _ _ _ (by decide)]; exact upd2_same _ _ _ _, ?_⟩
              first | exact Or.inr (Or.inr (Or.inr (Or.inr ⟨by rw [if_pos hsg]; exact hsg, upd2_same _ _ _ _, by rw [upd2_same, h45, nI_l (by omega), if_pos hsg]⟩))) | exact Or.inr (Or.inr (Or.inl ⟨if_neg hsg, Or.inl (upd2_same _ _ _ _)⟩))
            · refine r_step hk rfl rfl rfl ?_
              refine r_eq (fun _ => ?_) (fun hq9 => absurd (by decide) hq9)
              refine r_step hk rfl rfl rfl ?_
              refine r_is hk (done.length) rfl rfl rfl rfl (by omega) rfl rfl ?_
              refine r_step hk rfl rfl rfl ?_
              have htk : ktk f len p = ((if ksg (f p) = true then f p else 302, 0, p), p + 1) := (by unfold ktk; rw [hke, if_neg (by omega), if_neg hlp, if_neg hdp])
              rw [nI_1]
              refine fin (p + 1) _ _ _ _ rfl rfl (by rw [htk]) (gag_up (gag_up hag (by decide)) (by decide)) (fun j hj => ?_) ?_
              (refine ⟨?_, ?_⟩; (rw [upd2_at, if_neg hj, upd2_row _ _ _ _ (by decide)]); (rw [upd2_row _ _ _ _ (by decide), upd2_at, if_neg hj]))
              rw [htk]
              refine ⟨by rw [upd2_row _ _ _ _ (by decide)]; exact upd2_same _ _ _ _, ?_⟩
              first | exact Or.inr (Or.inr (Or.inr (Or.inr ⟨by rw [if_pos hsg]; exact hsg, upd2_same _ _ _ _, by rw [upd2_same, h45, nI_l (by omega), if_pos hsg]⟩))) | exact Or.inr (Or.inr (Or.inl ⟨if_neg hsg, Or.inl (upd2_same _ _ _ _)⟩))
  iterate 3 refine r_step hk rfl rfl rfl ?_
  refine r_putI hk rfl rfl rfl rfl ?_
  iterate 2 refine r_step hk rfl rfl rfl ?_
  refine r_putI hk rfl rfl rfl rfl ?_
  iterate 4 refine r_step hk rfl rfl rfl ?_
  rw [hl]
  exact loop len 0 (by omega) (by omega) a b [] _ _ _ _ rfl rfl (Nat.le_refl _) gag_rf gagb_rf trivial rfl
end GM14

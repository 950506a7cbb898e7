-- deps: 37 38 39 43 44 45 49 50 51 52 59 60 61
/-! ===== the class: the parser's descent is the machine of texts ===== -/
theorem kD_st (z : Nat) (rs : List kWt) (ts : List kTok) (cs : List Nat) (ls : kLs) (wy : Nat) : kstep (kD ((0, 0, z) :: rs) ts cs ls wy) = if z ≠ 0 then kD ((0, 0, 0) :: rs) ts (cs ++ [10014]) ls wy else if (khd ts).1 = 205 then kA ((0, 0, 10014) :: rs) ts.tail cs ls wy else if rs = [] then kX ts cs ls wy else if (khd ts).1 = 41 then kB rs ts.tail cs ls wy else kfl 1 ts := rfl
section GC12
variable {w0 a0 : Nat → Nat → Int32} {b : Nat → Nat → Int64} {r : Nat → Nat → Nat} {q : Nat → Nat → Option Nat} {y : gH} {n u : Nat} {f : Nat → Nat} {len e base : Nat} {st0 : kSt} {ls : kLs} {wy : Nat}
abbrev kRd (n u : Nat) (b : Nat → Nat → Int64) (r : Nat → Nat → Nat) (q : Nat → Nat → Option Nat) (y : gH) (f : Nat → Nat) (len e base : Nat) (st0 : kSt) (w0 a0 : Nat → Nat → Int32) (m d dp : Nat) (w a : Nat → Nat → Int32) (P : List kTok → List Nat → Prop) : Prop := gE d m [.ref 32, .int (nI dp)] (n, u, HP w a b r q y) (kQp n u b r q y f len e base st0 w0 a0 P)
def cPart (n u : Nat) (b : Nat → Nat → Int64) (r : Nat → Nat → Nat) (q : Nat → Nat → Option Nat) (y : gH) (f : Nat → Nat) (len e base : Nat) (st0 : kSt) (w0 a0 : Nat → Nat → Int32) (ls : kLs) (wy dp : Nat) : Prop := ∀ (d : Nat) (w a : Nat → Nat → Int32) (ts : List kTok) (cs : List Nat) (stk : List kWt), 15 + 4 * (6 - dp) ≤ d → stk.length = dp → kR st0 (kA stk ts cs ls wy) → cfp e base w0 a0 w a → kPp w a f len e base ts cs → kRd n u b r q y f len e base st0 w0 a0 33 d dp w a (fun ts' cs' => ts'.length < ts.length ∧ kR st0 (kB stk ts' cs' ls wy))
def cSum (n u : Nat) (b : Nat → Nat → Int64) (r : Nat → Nat → Nat) (q : Nat → Nat → Option Nat) (y : gH) (f : Nat → Nat) (len e base : Nat) (st0 : kSt) (w0 a0 : Nat → Nat → Int32) (ls : kLs) (wy dp : Nat) : Prop := ∀ (d : Nat) (w a : Nat → Nat → Int32) (ts : List kTok) (cs : List Nat) (c z : Nat) (rs : List kWt), 16 + 4 * (6 - dp) ≤ d → rs.length + 1 = dp → kR st0 (kA ((0, c, z) :: rs) ts cs ls wy) → cfp e base w0 a0 w a → kPp w a f len e base ts cs → kRd n u b r q y f len e base st0 w0 a0 32 d dp w a (fun ts' cs' => ts'.length < ts.length ∧ kR st0 (kC ((0, c, z) :: rs) ts' cs' ls wy))
def cTest (n u : Nat) (b : Nat → Nat → Int64) (r : Nat → Nat → Nat) (q : Nat → Nat → Option Nat) (y : gH) (f : Nat → Nat) (len e base : Nat) (st0 : kSt) (w0 a0 : Nat → Nat → Int32) (ls : kLs) (wy dp : Nat) : Prop := ∀ (d : Nat) (w a : Nat → Nat → Int32) (ts : List kTok) (cs : List Nat) (z : Nat) (rs : List kWt), 17 + 4 * (6 - dp) ≤ d → rs.length + 1 = dp → kR st0 (kA ((0, 0, z) :: rs) ts cs ls wy) → cfp e base w0 a0 w a → kPp w a f len e base ts cs → kRd n u b r q y f len e base st0 w0 a0 31 d dp w a (fun ts' cs' => ts'.length < ts.length ∧ kR st0 (kD ((0, 0, z) :: rs) ts' cs' ls wy))
def cTests (n u : Nat) (b : Nat → Nat → Int64) (r : Nat → Nat → Nat) (q : Nat → Nat → Option Nat) (y : gH) (f : Nat → Nat) (len e base : Nat) (st0 : kSt) (w0 a0 : Nat → Nat → Int32) (ls : kLs) (wy dp : Nat) : Prop := ∀ (d : Nat) (w a : Nat → Nat → Int32) (ts : List kTok) (cs : List Nat) (rs : List kWt), 18 + 4 * (6 - dp) ≤ d → rs.length + 1 = dp → kR st0 (kA ((0, 0, 0) :: rs) ts cs ls wy) → cfp e base w0 a0 w a → kPp w a f len e base ts cs → kRd n u b r q y f len e base st0 w0 a0 30 d dp w a (fun ts' cs' => ts'.length < ts.length ∧ (khd ts').1 ≠ 205 ∧ kR st0 (kD ((0, 0, 0) :: rs) ts' cs' ls wy))
theorem c_readSum {dp : Nat} (hX : kCx w0 a0 r f len e base st0 ls) (hP : cPart n u b r q y f len e base st0 w0 a0 ls wy dp) (hdp : dp ≤ 6) : cSum n u b r q y f len e base st0 w0 a0 ls wy dp := by
  intro d w a ts cs c z rs hd hrl hR hfp hp
  have hk : gMT[32]? = some gro_32 := rfl
  refine r_inQ hk [some (.ref 32), some (.int (nI dp)), none, none] (Nat.le_of_ble_eq_true rfl) rfl ?_
  intro Q hQ
  obtain ⟨hT0, he, hr, hin, hb⟩ := hX
  have hlenA := (kinv_R hin hR).2.2.2.2.2.2.2.2.2
  have loop : ∀ (k : Nat) (w1 a1 : Nat → Nat → Int32) (ts1 : List kTok) (cs1 : List Nat) (i : Nat) (v : Int32) (l3 : Option Value), ts1.length ≤ k → ts1.length < ts.length → v = nI i → i + ts1.length ≤ 601 → cfp e base w0 a0 w1 a1 → kPp w1 a1 f len e base ts1 cs1 → kR st0 (kB ((0, c, z) :: rs) ts1 cs1 ls wy) → gX d 32 12 [some (.ref 32), some (.int (nI dp)), some (.int v), l3] [] (n, u, HP w1 a1 b r q y) Q := by
    intro k
    induction k with
    | zero =>
      intro w1 a1 ts1 cs1 i v l3 hk0 hlt hv hi hf1 hp1 hR1
      have := (kinv_R hin hR1).2.2.2.2.2.2.2.2.1.1
      exact absurd (List.length_eq_zero_iff.mp (by omega)) this
    | succ k ih =>
      intro w1 a1 ts1 cs1 i v l3 hk0 hlt hv hi hf1 hp1 hR1
      have hT1 := cTap_cfp he hT0 hf1
      obtain ⟨t1, t2, t3, t4, t5⟩ := kPp_tok hp1 hT1
      obtain ⟨j1, j2, j3, j4, j5, j6, j7, j8, j9, j10⟩ := kinv_R hin hR1
      have hltl := klen_tl j9
      have e43 : w1 33 1 = 43 ↔ (khd ts1).1 = 43 := by rw [t1]; exact nI_eq (b := 43) (by omega) (by omega)
      have e45 : w1 33 1 = 45 ↔ (khd ts1).1 = 45 := by rw [t1]; exact nI_eq (b := 45) (by omega) (by omega)
      have kst : kstep (kB ((0, c, z) :: rs) ts1 cs1 ls wy) = if (khd ts1).1 = 43 ∨ (khd ts1).1 = 45 then kA ((if (khd ts1).1 = 43 then 10010 else 10011, c, z) :: rs) ts1.tail cs1 ls wy else kC ((0, c, z) :: rs) ts1 cs1 ls wy := rfl
      have done : ¬ ((khd ts1).1 = 43 ∨ (khd ts1).1 = 45) → ∀ L : gL, gX d 32 94 L [] (n, u, HP w1 a1 b r q y) Q := by
        intro hno L
        rw [if_neg hno] at kst
        refine r_step hk rfl rfl rfl ?_
        refine r_iret hk rfl (Or.inr rfl) ?_
        exact hQ _ _ ⟨w1, a1, hf1, rfl, Or.inl ⟨rfl, ts1, cs1, ⟨hlt, kR_end hR1 kst⟩, hp1⟩⟩
      have go : ∀ (op : Nat) (x : Int32), (op = 10010 ∨ op = 10011) → x = gco op → kstep (kB ((0, c, z) :: rs) ts1 cs1 ls wy) = kA ((op, c, z) :: rs) ts1.tail cs1 ls wy → (khd ts1).1 ≠ 301 → gX d 32 62 [some (.ref 32), some (.int (nI dp)), some (.int v), l3] [.int x] (n, u, HP w1 a1 b r q y) Q := by
        intro op x hop hx kst2 hne
        have hRA := kR_end hR1 kst2
        iterate 3 refine r_step hk rfl rfl rfl ?_
        refine r_callV hk [.ref 33] [] rfl rfl rfl rfl rfl rfl rfl (by omega) (c_pnext (by omega) he hT1 hp1 hne) ?_
        rintro _ _ ⟨rfl, w2, hf2, hp2, rfl⟩
        iterate 2 refine r_step hk rfl rfl rfl ?_
        refine r_callV hk [.ref 32, .int (nI dp)] [] rfl rfl rfl rfl rfl rfl rfl (by omega) (hP (d - 1) w2 a1 ts1.tail cs1 ((op, c, z) :: rs) (by omega) (by simpa using hrl) hRA (cfp_tr hf1 hf2) hp2) ?_
        rintro _ _ ⟨w3, a3, hf3, rfl, ⟨rfl, ts3, cs3, ⟨hl3, hR3⟩, hp3⟩ | ⟨rfl, g, hg1, hg2, hg3, hg4⟩⟩
        · refine r_step hk rfl rfl rfl ?_
          refine r_ne (fun _ => ?_) (fun hq9 => absurd hq9 (by decide))
          refine r_step hk rfl rfl rfl ?_
          refine r_step hk rfl rfl rfl ?_
          rw [hr]
          refine r_step hk rfl rfl rfl ?_
          obtain ⟨m1, m2, m3, m4, m5, m6, m7, m8, m9, m10⟩ := kinv_R hin hR3
          have hltl3 := klen_tl m9
          have kst3 : kstep (kB ((op, c, z) :: rs) ts3 cs3 ls wy) = kB ((0, c, z) :: rs) ts3 (cs3 ++ [op]) ls wy := if_pos (by omega)
          refine r_callV hk [.ref (22 + 5 * e), .int x] [] rfl rfl rfl rfl rfl rfl (grcv_ru he _) (by omega) (c_add he hp3.2.2.1 (by omega) x) ?_
          rintro _ _ ⟨rfl, rfl⟩
          iterate 2 refine r_step hk rfl rfl rfl ?_
          exact ih _ _ ts3 (cs3 ++ [op]) (i + 1) _ _ (by omega) (by omega) (nI_s hv) (by omega) (cfp_tr hf3 (cfp_add (Nat.le_add_right _ _) _ _)) (kPp_add he hp3 hx) (kR_end hR3 kst3)
        · refine r_step hk rfl rfl rfl ?_
          refine r_ne (fun hq9 => absurd (by decide) hq9) (fun _ => ?_)
          refine r_step hk rfl rfl rfl ?_
          refine r_iret hk rfl (Or.inl rfl) ?_
          exact hQ _ _ ⟨w3, a3, hf3, rfl, Or.inr ⟨rfl, g, hg1, hg2, hg3, hg4⟩⟩
      by_cases hop : (khd ts1).1 = 43 ∨ (khd ts1).1 = 45
      · rw [if_pos hop] at kst
        have hts2 := kTsok_tl j9 (by omega : (khd ts1).1 ≠ 301)
        have hltl2 := klen_tl hts2
        have h16 : ¬ (600 : Int32) ≤ v := by rw [hv]; exact nI_ge (b := 600) (by omega) (by decide)
        by_cases h43 : (khd ts1).1 = 43
        · rw [if_pos h43] at kst
          iterate 3 refine r_step hk rfl rfl rfl ?_
          refine r_ge (fun hq9 => absurd hq9 h16) (fun _ => ?_)
          iterate 5 refine r_step hk rfl rfl rfl ?_
          refine r_eq (fun _ => ?_) (fun hq9 => absurd (e43.mpr h43) hq9)
          iterate 5 refine r_step hk rfl rfl rfl ?_
          refine r_ne (fun hq9 => absurd (e43.mpr h43) hq9) (fun _ => ?_)
          iterate 2 refine r_step hk rfl rfl rfl ?_
          exact go 10010 _ (Or.inl rfl) (by decide) kst (by omega)
        · rw [if_neg h43] at kst
          iterate 3 refine r_step hk rfl rfl rfl ?_
          refine r_ge (fun hq9 => absurd hq9 h16) (fun _ => ?_)
          iterate 5 refine r_step hk rfl rfl rfl ?_
          refine r_eq (fun hq9 => absurd hq9 (mt e43.mp h43)) (fun _ => ?_)
          iterate 5 refine r_step hk rfl rfl rfl ?_
          refine r_ne (fun hq9 => absurd (e45.mpr (hop.resolve_left h43)) hq9) (fun _ => ?_)
          iterate 5 refine r_step hk rfl rfl rfl ?_
          refine r_ne (fun _ => ?_) (fun hq9 => absurd hq9 (mt e43.mp h43))
          refine r_step hk rfl rfl rfl ?_
          exact go 10011 _ (Or.inr rfl) (by decide) kst (by omega)
      · skip
        iterate 3 refine r_step hk rfl rfl rfl ?_
        refine r_ge (fun h16 => ?_) (fun h16 => ?_)
        · exact done hop _
        · iterate 5 refine r_step hk rfl rfl rfl ?_
          refine r_eq (fun hq9 => absurd hq9 (fun hc => hop (Or.inl (e43.mp hc)))) (fun _ => ?_)
          iterate 5 refine r_step hk rfl rfl rfl ?_
          refine r_ne (fun _ => ?_) (fun hq9 => absurd hq9 (fun hc => hop (Or.inr (e45.mp hc))))
          exact done hop _
  iterate 2 refine r_step hk rfl rfl rfl ?_
  refine r_callV hk [.ref 32, .int (nI dp)] [] rfl rfl rfl rfl rfl rfl rfl (by omega) (hP (d - 1) w a ts cs ((0, c, z) :: rs) (by omega) (by simpa using hrl) hR hfp hp) ?_
  rintro _ _ ⟨w3, a3, hf3, rfl, ⟨rfl, ts3, cs3, ⟨hl3, hR3⟩, hp3⟩ | ⟨rfl, g, hg1, hg2, hg3, hg4⟩⟩
  · refine r_step hk rfl rfl rfl ?_
    refine r_ne (fun _ => ?_) (fun hq9 => absurd hq9 (by decide))
    iterate 2 refine r_step hk rfl rfl rfl ?_
    exact loop ts3.length w3 a3 ts3 cs3 0 _ _ (Nat.le_refl _) hl3 rfl (by omega) hf3 hp3 hR3
  · refine r_step hk rfl rfl rfl ?_
    refine r_ne (fun hq9 => absurd (by decide) hq9) (fun _ => ?_)
    refine r_step hk rfl rfl rfl ?_
    refine r_iret hk rfl (Or.inl rfl) ?_
    exact hQ _ _ ⟨w3, a3, hf3, rfl, Or.inr ⟨rfl, g, hg1, hg2, hg3, hg4⟩⟩
theorem c_readTest {dp : Nat} (hX : kCx w0 a0 r f len e base st0 ls) (hS : cSum n u b r q y f len e base st0 w0 a0 ls wy dp) : cTest n u b r q y f len e base st0 w0 a0 ls wy dp := by
  intro d w a ts cs z rs hd hrl hR hfp hp
  have hk : gMT[31]? = some gro_31 := rfl
  refine r_inQ hk [some (.ref 32), some (.int (nI dp)), none] (Nat.le_of_ble_eq_true rfl) rfl ?_
  intro Q hQ
  obtain ⟨hT0, he, hr, hin, hb⟩ := hX
  have mid : ∀ (w1 a1 : Nat → Nat → Int32) (ts1 : List kTok) (cs1 : List Nat), ts1.length < ts.length → cfp e base w0 a0 w1 a1 → kPp w1 a1 f len e base ts1 cs1 → kR st0 (kC ((0, 0, z) :: rs) ts1 cs1 ls wy) → gX d 31 10 [some (.ref 32), some (.int (nI dp)), none] [] (n, u, HP w1 a1 b r q y) Q := by
    intro w1 a1 ts1 cs1 hlt hf1 hp1 hR1
    have hT1 := cTap_cfp he hT0 hf1
    obtain ⟨t1, t2, t3, t4, t5⟩ := kPp_tok hp1 hT1
    obtain ⟨j1, j2, j3, j4, j5, j6, j7, j8, j9, j10⟩ := kinv_R hin hR1
    have hltl := klen_tl j9
    have e60 : w1 33 1 = 60 ↔ (khd ts1).1 = 60 := by rw [t1]; exact nI_eq (b := 60) (by omega) (by omega)
    have e61 : w1 33 1 = 61 ↔ (khd ts1).1 = 61 := by rw [t1]; exact nI_eq (b := 61) (by omega) (by omega)
    have kst : kstep (kC ((0, 0, z) :: rs) ts1 cs1 ls wy) = if (khd ts1).1 = 60 ∨ (khd ts1).1 = 61 then kA ((0, if (khd ts1).1 = 60 then 10012 else 10013, z) :: rs) ts1.tail cs1 ls wy else kD ((0, 0, z) :: rs) ts1 cs1 ls wy := rfl
    have go : ∀ (op : Nat) (x : Int32), (op = 10012 ∨ op = 10013) → x = gco op → kstep (kC ((0, 0, z) :: rs) ts1 cs1 ls wy) = kA ((0, op, z) :: rs) ts1.tail cs1 ls wy → (khd ts1).1 ≠ 301 → gX d 31 55 [some (.ref 32), some (.int (nI dp)), none] [.int x] (n, u, HP w1 a1 b r q y) Q := by
      intro op x hop hx kst2 hne
      have hRA := kR_end hR1 kst2
      iterate 3 refine r_step hk rfl rfl rfl ?_
      refine r_callV hk [.ref 33] [] rfl rfl rfl rfl rfl rfl rfl (by omega) (c_pnext (by omega) he hT1 hp1 hne) ?_
      rintro _ _ ⟨rfl, w2, hf2, hp2, rfl⟩
      iterate 2 refine r_step hk rfl rfl rfl ?_
      refine r_callV hk [.ref 32, .int (nI dp)] [] rfl rfl rfl rfl rfl rfl rfl (by omega) (hS (d - 1) w2 a1 ts1.tail cs1 op z rs (by omega) hrl hRA (cfp_tr hf1 hf2) hp2) ?_
      rintro _ _ ⟨w3, a3, hf3, rfl, ⟨rfl, ts3, cs3, ⟨hl3, hR3⟩, hp3⟩ | ⟨rfl, g, hg1, hg2, hg3, hg4⟩⟩
      · refine r_step hk rfl rfl rfl ?_
        refine r_ne (fun _ => ?_) (fun hq9 => absurd hq9 (by decide))
        refine r_step hk rfl rfl rfl ?_
        refine r_step hk rfl rfl rfl ?_
        rw [hr]
        refine r_step hk rfl rfl rfl ?_
        obtain ⟨m1, m2, m3, m4, m5, m6, m7, m8, m9, m10⟩ := kinv_R hin hR3
        have hltl3 := klen_tl m9
        have kst3 : kstep (kC ((0, op, z) :: rs) ts3 cs3 ls wy) = kD ((0, 0, z) :: rs) ts3 (cs3 ++ [op]) ls wy := if_pos (by omega)
        refine r_callV hk [.ref (22 + 5 * e), .int x] [] rfl rfl rfl rfl rfl rfl (grcv_ru he _) (by omega) (c_add he hp3.2.2.1 (by omega) x) ?_
        rintro _ _ ⟨rfl, rfl⟩
        refine r_step hk rfl rfl rfl ?_
        refine r_iret hk rfl (Or.inr rfl) ?_
        exact hQ _ _ ⟨_, _, cfp_tr hf3 (cfp_add (Nat.le_add_right _ _) _ _), rfl, Or.inl ⟨rfl, ts3, cs3 ++ [op], ⟨by omega, kR_end hR3 kst3⟩, kPp_add he hp3 hx⟩⟩
      · refine r_step hk rfl rfl rfl ?_
        refine r_ne (fun hq9 => absurd (by decide) hq9) (fun _ => ?_)
        refine r_step hk rfl rfl rfl ?_
        refine r_iret hk rfl (Or.inl rfl) ?_
        exact hQ _ _ ⟨w3, a3, hf3, rfl, Or.inr ⟨rfl, g, hg1, hg2, hg3, hg4⟩⟩
    by_cases hop : (khd ts1).1 = 60 ∨ (khd ts1).1 = 61
    · rw [if_pos hop] at kst
      by_cases h60 : (khd ts1).1 = 60
      · rw [if_pos h60] at kst
        iterate 5 refine r_step hk rfl rfl rfl ?_
        refine r_eq (fun _ => ?_) (fun hq9 => absurd (e60.mpr h60) hq9)
        iterate 5 refine r_step hk rfl rfl rfl ?_
        refine r_ne (fun hq9 => absurd (e60.mpr h60) hq9) (fun _ => ?_)
        iterate 2 refine r_step hk rfl rfl rfl ?_
        exact go 10012 _ (Or.inl rfl) (by decide) kst (by omega)
      · rw [if_neg h60] at kst
        iterate 5 refine r_step hk rfl rfl rfl ?_
        refine r_eq (fun hq9 => absurd hq9 (mt e60.mp h60)) (fun _ => ?_)
        iterate 5 refine r_step hk rfl rfl rfl ?_
        refine r_eq (fun _ => ?_) (fun hq9 => absurd (e61.mpr (hop.resolve_left h60)) hq9)
        iterate 5 refine r_step hk rfl rfl rfl ?_
        refine r_ne (fun _ => ?_) (fun hq9 => absurd hq9 (mt e60.mp h60))
        refine r_step hk rfl rfl rfl ?_
        exact go 10013 _ (Or.inr rfl) (by decide) kst (by omega)
    · rw [if_neg hop] at kst
      iterate 5 refine r_step hk rfl rfl rfl ?_
      refine r_eq (fun hq9 => absurd hq9 (fun hc => hop (Or.inl (e60.mp hc)))) (fun _ => ?_)
      iterate 5 refine r_step hk rfl rfl rfl ?_
      refine r_eq (fun hq9 => absurd hq9 (fun hc => hop (Or.inr (e61.mp hc)))) (fun _ => ?_)
      refine r_step hk rfl rfl rfl ?_
      refine r_iret hk rfl (Or.inr rfl) ?_
      exact hQ _ _ ⟨w1, a1, hf1, rfl, Or.inl ⟨rfl, ts1, cs1, ⟨hlt, kR_end hR1 kst⟩, hp1⟩⟩
  iterate 2 refine r_step hk rfl rfl rfl ?_
  refine r_callV hk [.ref 32, .int (nI dp)] [] rfl rfl rfl rfl rfl rfl rfl (by omega) (hS (d - 1) w a ts cs 0 z rs (by omega) hrl hR hfp hp) ?_
  rintro _ _ ⟨w3, a3, hf3, rfl, ⟨rfl, ts3, cs3, ⟨hl3, hR3⟩, hp3⟩ | ⟨rfl, g, hg1, hg2, hg3, hg4⟩⟩
  · refine r_step hk rfl rfl rfl ?_
    refine r_ne (fun _ => ?_) (fun hq9 => absurd hq9 (by decide))
    exact mid w3 a3 ts3 cs3 hl3 hf3 hp3 hR3
  · refine r_step hk rfl rfl rfl ?_
    refine r_ne (fun hq9 => absurd (by decide) hq9) (fun _ => ?_)
    refine r_step hk rfl rfl rfl ?_
    refine r_iret hk rfl (Or.inl rfl) ?_
    exact hQ _ _ ⟨w3, a3, hf3, rfl, Or.inr ⟨rfl, g, hg1, hg2, hg3, hg4⟩⟩
theorem c_readTests {dp : Nat} (hX : kCx w0 a0 r f len e base st0 ls) (hS : cTest n u b r q y f len e base st0 w0 a0 ls wy dp) : cTests n u b r q y f len e base st0 w0 a0 ls wy dp := by
  intro d w a ts cs rs hd hrl hR hfp hp
  have hk : gMT[30]? = some gro_30 := rfl
  refine r_inQ hk [some (.ref 32), some (.int (nI dp)), none] (Nat.le_of_ble_eq_true rfl) rfl ?_
  intro Q hQ
  obtain ⟨hT0, he, hr, hin, hb⟩ := hX
  have hlenA := (kinv_R hin hR).2.2.2.2.2.2.2.2.2
  have loop : ∀ (k : Nat) (w1 a1 : Nat → Nat → Int32) (ts1 : List kTok) (cs1 : List Nat) (i : Nat) (v : Int32), ts1.length ≤ k → ts1.length < ts.length → v = nI i → i + ts1.length ≤ 601 → cfp e base w0 a0 w1 a1 → kPp w1 a1 f len e base ts1 cs1 → kR st0 (kD ((0, 0, 0) :: rs) ts1 cs1 ls wy) → gX d 30 12 [some (.ref 32), some (.int (nI dp)), some (.int v)] [] (n, u, HP w1 a1 b r q y) Q := by
    intro k
    induction k with
    | zero =>
      intro w1 a1 ts1 cs1 i v hk0 hlt hv hi hf1 hp1 hR1
      have := (kinv_R hin hR1).2.2.2.2.2.2.2.2.1.1
      exact absurd (List.length_eq_zero_iff.mp (by omega)) this
    | succ k ih =>
      intro w1 a1 ts1 cs1 i v hk0 hlt hv hi hf1 hp1 hR1
      have hT1 := cTap_cfp he hT0 hf1
      obtain ⟨t1, t2, t3, t4, t5⟩ := kPp_tok hp1 hT1
      obtain ⟨j1, j2, j3, j4, j5, j6, j7, j8, j9, j10⟩ := kinv_R hin hR1
      have hltl := klen_tl j9
      have e205 : w1 33 1 = 205 ↔ (khd ts1).1 = 205 := by rw [t1]; exact nI_eq (b := 205) (by omega) (by omega)
      have done : ¬ (khd ts1).1 = 205 → ∀ L : gL, gX d 30 64 L [] (n, u, HP w1 a1 b r q y) Q := by
        intro hno L
        refine r_step hk rfl rfl rfl ?_
        refine r_iret hk rfl (Or.inr rfl) ?_
        exact hQ _ _ ⟨w1, a1, hf1, rfl, Or.inl ⟨rfl, ts1, cs1, ⟨hlt, hno, hR1⟩, hp1⟩⟩
      by_cases h205 : (khd ts1).1 = 205
      · have kst : kstep (kD ((0, 0, 0) :: rs) ts1 cs1 ls wy) = kA ((0, 0, 10014) :: rs) ts1.tail cs1 ls wy := by
          rw [kD_st, if_neg (by decide), if_pos h205]
        have hRA := kR_end hR1 kst
        have hts2 := kTsok_tl j9 (by omega : (khd ts1).1 ≠ 301)
        have hltl2 := klen_tl hts2
        iterate 3 refine r_step hk rfl rfl rfl ?_
        refine r_ge (fun hq9 => absurd hq9 (show ¬ (600 : Int32) ≤ v by rw [hv]; exact nI_ge (b := 600) (by omega) (by decide))) (fun _ => ?_)
        iterate 5 refine r_step hk rfl rfl rfl ?_
        refine r_ne (fun hq9 => absurd (e205.mpr h205) hq9) (fun _ => ?_)
        iterate 2 refine r_step hk rfl rfl rfl ?_
        refine r_callV hk [.ref 33] [] rfl rfl rfl rfl rfl rfl rfl (by omega) (c_pnext (by omega) he hT1 hp1 (by omega)) ?_
        rintro _ _ ⟨rfl, w2, hf2, hp2, rfl⟩
        iterate 2 refine r_step hk rfl rfl rfl ?_
        refine r_callV hk [.ref 32, .int (nI dp)] [] rfl rfl rfl rfl rfl rfl rfl (by omega) (hS (d - 1) w2 a1 ts1.tail cs1 10014 rs (by omega) hrl hRA (cfp_tr hf1 hf2) hp2) ?_
        rintro _ _ ⟨w3, a3, hf3, rfl, ⟨rfl, ts3, cs3, ⟨hl3, hR3⟩, hp3⟩ | ⟨rfl, g, hg1, hg2, hg3, hg4⟩⟩
        · refine r_step hk rfl rfl rfl ?_
          refine r_ne (fun _ => ?_) (fun hq9 => absurd hq9 (by decide))
          refine r_step hk rfl rfl rfl ?_
          refine r_step hk rfl rfl rfl ?_
          rw [hr]
          refine r_step hk rfl rfl rfl ?_
          obtain ⟨m1, m2, m3, m4, m5, m6, m7, m8, m9, m10⟩ := kinv_R hin hR3
          have hltl3 := klen_tl m9
          have kst3 : kstep (kD ((0, 0, 10014) :: rs) ts3 cs3 ls wy) = kD ((0, 0, 0) :: rs) ts3 (cs3 ++ [10014]) ls wy := (by rw [kD_st, if_pos (by decide)])
          refine r_callV hk [.ref (22 + 5 * e), .int (-15)] [] rfl rfl rfl rfl rfl rfl (grcv_ru he _) (by omega) (c_add he hp3.2.2.1 (by omega) (-15)) ?_
          rintro _ _ ⟨rfl, rfl⟩
          iterate 2 refine r_step hk rfl rfl rfl ?_
          exact ih _ _ ts3 (cs3 ++ [10014]) (i + 1) _ (by omega) (by omega) (nI_s hv) (by omega) (cfp_tr hf3 (cfp_add (Nat.le_add_right _ _) _ _)) (kPp_add he hp3 (by decide)) (kR_end hR3 kst3)
        · refine r_step hk rfl rfl rfl ?_
          refine r_ne (fun hq9 => absurd (by decide) hq9) (fun _ => ?_)
          refine r_step hk rfl rfl rfl ?_
          refine r_iret hk rfl (Or.inl rfl) ?_
          exact hQ _ _ ⟨w3, a3, hf3, rfl, Or.inr ⟨rfl, g, hg1, hg2, hg3, hg4⟩⟩
      · skip
        iterate 3 refine r_step hk rfl rfl rfl ?_
        refine r_ge (fun h16 => ?_) (fun h16 => ?_)
        · exact done h205 _
        · iterate 5 refine r_step hk rfl rfl rfl ?_
          refine r_ne (fun _ => ?_) (fun hq9 => absurd hq9 (mt e205.mp h205))
          exact done h205 _
  iterate 2 refine r_step hk rfl rfl rfl ?_
  refine r_callV hk [.ref 32, .int (nI dp)] [] rfl rfl rfl rfl rfl rfl rfl (by omega) (hS (d - 1) w a ts cs 0 rs (by omega) hrl hR hfp hp) ?_
  rintro _ _ ⟨w3, a3, hf3, rfl, ⟨rfl, ts3, cs3, ⟨hl3, hR3⟩, hp3⟩ | ⟨rfl, g, hg1, hg2, hg3, hg4⟩⟩
  · refine r_step hk rfl rfl rfl ?_
    refine r_ne (fun _ => ?_) (fun hq9 => absurd hq9 (by decide))
    iterate 2 refine r_step hk rfl rfl rfl ?_
    exact loop ts3.length w3 a3 ts3 cs3 0 _ (Nat.le_refl _) hl3 rfl (by omega) hf3 hp3 hR3
  · refine r_step hk rfl rfl rfl ?_
    refine r_ne (fun hq9 => absurd (by decide) hq9) (fun _ => ?_)
    refine r_step hk rfl rfl rfl ?_
    refine r_iret hk rfl (Or.inl rfl) ?_
    exact hQ _ _ ⟨w3, a3, hf3, rfl, Or.inr ⟨rfl, g, hg1, hg2, hg3, hg4⟩⟩
theorem c_readPart {dp : Nat} (hX : kCx w0 a0 r f len e base st0 ls) (hdp : dp ≤ 6) (hT : dp ≤ 5 → cTests n u b r q y f len e base st0 w0 a0 ls wy (dp + 1)) : cPart n u b r q y f len e base st0 w0 a0 ls wy dp := by
  intro d w a ts cs stk hd hsl hR hfp hp
  have hk : gMT[33]? = some gro_33 := rfl
  refine r_inQ hk [some (.ref 32), some (.int (nI dp)), none, none] (Nat.le_of_ble_eq_true rfl) rfl ?_
  intro Q hQ
  obtain ⟨hT0, he, hr, hin, hb⟩ := hX
  have hT1 := cTap_cfp he hT0 hfp
  obtain ⟨t1, t2, t3, t4, t5⟩ := kPp_tok hp hT1
  obtain ⟨j1, j2, j3, j4, j5, j6, j7, j8, j9, j10⟩ := kinv_R hin hR
  have hltl := klen_tl j9
  have hws := kws_le stk
  have e40 : w 33 1 = 40 ↔ (khd ts).1 = 40 := by rw [t1]; exact nI_eq (b := 40) (by omega) (by omega)
  have e300 : w 33 1 = 300 ↔ (khd ts).1 = 300 := by rw [t1]; exact nI_eq (b := 300) (by omega) (by omega)
  have h63 : nI dp ≤ 5 ↔ dp ≤ 5 := nI_leI (b := 5) (by omega) (by omega)
  have kst : kstep (kA stk ts cs ls wy) = if ¬ kIsPart (khd ts).1 then kfl 1 ts else if stk.length = 6 then kfl 5 ts else if (khd ts).1 = 40 then kA ((0, 0, 0) :: stk) ts.tail cs ls wy else kB stk ts.tail (cs ++ [kcode (khd ts)]) ls wy := rfl
  by_cases hpt : kIsPart (khd ts).1
  · rw [if_neg (not_not_intro hpt)] at kst
    have hne : (khd ts).1 ≠ 301 := by unfold kIsPart at hpt; omega
    by_cases h6 : stk.length = 6
    · rw [if_pos h6] at kst
      have flt : ∀ L : gL, L = [some (.ref 32), some (.int (nI dp)), gl L 2, gl L 3] → gX d 33 61 L [] (n, u, HP w a b r q y) Q := by
        intro L hL
        rw [hL]
        iterate 3 refine r_step hk rfl rfl rfl ?_
        refine r_le (fun hq9 => absurd hq9 (fun hc => by have := h63.mp hc; omega)) (fun _ => ?_)
        iterate 2 refine r_step hk rfl rfl rfl ?_
        refine r_callV hk [.ref 32, .int 5] [] rfl rfl rfl rfl rfl rfl rfl (by omega) (c_wrong (k := 5) t3) ?_
        rintro _ _ ⟨rfl, rfl⟩
        refine r_iret hk rfl (Or.inl rfl) ?_
        exact hQ _ _ ⟨_, a, cfp_tr hfp (cfp_32 he _ _), rfl, Or.inr ⟨rfl, 5 + 16 * (khd ts).2.2, by omega, by omega, upd2_same _ _ _ _, kR_end hR kst⟩⟩
      rcases hpt with h40 | h300 | hfa
      · skip
        iterate 5 refine r_step hk rfl rfl rfl ?_
        refine r_ne (fun hq9 => absurd (e40.mpr h40) hq9) (fun _ => ?_)
        iterate 8 refine r_step hk rfl rfl rfl ?_
        refine r_ne (fun _ => ?_) (fun hq9 => absurd hq9 (fun hc => by have := e300.mp hc; omega))
        iterate 4 refine r_step hk rfl rfl rfl ?_
        refine r_ne (fun _ => ?_) (fun hq9 => absurd hq9 (by decide))
        exact flt _ rfl
      · skip
        iterate 5 refine r_step hk rfl rfl rfl ?_
        refine r_ne (fun _ => ?_) (fun hq9 => absurd hq9 (fun hc => by have := e40.mp hc; omega))
        iterate 7 refine r_step hk rfl rfl rfl ?_
        refine r_ne (fun hq9 => absurd (e300.mpr h300) hq9) (fun _ => ?_)
        iterate 5 refine r_step hk rfl rfl rfl ?_
        refine r_ne (fun hq9 => absurd (by decide) hq9) (fun _ => ?_)
        iterate 2 refine r_step hk rfl rfl rfl ?_
        refine r_ne (fun _ => ?_) (fun hq9 => absurd hq9 (by decide))
        exact flt _ rfl
      · skip
        iterate 5 refine r_step hk rfl rfl rfl ?_
        refine r_ne (fun _ => ?_) (fun hq9 => absurd hq9 (fun hc => by have := e40.mp hc; omega))
        iterate 7 refine r_step hk rfl rfl rfl ?_
        refine r_ne (fun _ => ?_) (fun hq9 => absurd hq9 (fun hc => by have := e300.mp hc; omega))
        iterate 4 refine r_step hk rfl rfl rfl ?_
        refine r_ne (fun hq9 => absurd (by decide) hq9) (fun _ => ?_)
        iterate 2 refine r_step hk rfl rfl rfl ?_
        refine r_ne (fun hq9 => absurd (by decide) hq9) (fun _ => ?_)
        iterate 2 refine r_step hk rfl rfl rfl ?_
        refine r_callV hk [.ref 33] [] rfl rfl rfl rfl rfl rfl rfl (by omega) (c_isFact t1 t2) ?_
        rintro _ _ ⟨⟨hs, rfl⟩ | ⟨hs, rfl⟩, rfl⟩
        · refine r_step hk rfl rfl rfl ?_
          refine r_ne (fun _ => ?_) (fun hq9 => absurd hq9 (by decide))
          exact flt _ rfl
        · exact absurd hfa hs
    · rw [if_neg h6] at kst
      have hle : nI dp ≤ 5 := h63.mpr (by omega)
      by_cases h40 : (khd ts).1 = 40
      · rw [if_pos h40] at kst
        have hRA := kR_end hR kst
        have e127 : nI dp + 1 = nI (dp + 1) := nI_1 dp
        iterate 5 refine r_step hk rfl rfl rfl ?_
        refine r_ne (fun hq9 => absurd (e40.mpr h40) hq9) (fun _ => ?_)
        iterate 8 refine r_step hk rfl rfl rfl ?_
        refine r_ne (fun _ => ?_) (fun hq9 => absurd hq9 (fun hc => by have := e300.mp hc; omega))
        iterate 4 refine r_step hk rfl rfl rfl ?_
        refine r_ne (fun _ => ?_) (fun hq9 => absurd hq9 (by decide))
        iterate 3 refine r_step hk rfl rfl rfl ?_
        refine r_le (fun _ => ?_) (fun hq9 => absurd hle hq9)
        iterate 2 refine r_step hk rfl rfl rfl ?_
        refine r_eq (fun _ => ?_) (fun hq9 => absurd (by decide) hq9)
        iterate 2 refine r_step hk rfl rfl rfl ?_
        refine r_ne (fun _ => ?_) (fun hq9 => absurd hq9 (by decide))
        iterate 2 refine r_step hk rfl rfl rfl ?_
        refine r_callV hk [.ref 33] [] rfl rfl rfl rfl rfl rfl rfl (by omega) (c_pnext (by omega) he hT1 hp hne) ?_
        rintro _ _ ⟨rfl, w2, hf2, hp2, rfl⟩
        iterate 2 refine r_step hk rfl rfl rfl ?_
        refine r_eq (fun hq9 => absurd hq9 (by decide)) (fun _ => ?_)
        iterate 4 refine r_step hk rfl rfl rfl ?_
        refine r_callV hk [.ref 32, .int (nI dp + 1)] [] rfl rfl rfl rfl rfl rfl rfl (by omega) (by rw [e127]; exact hT (by omega) (d - 1) w2 a ts.tail cs stk (by omega) (by omega) hRA (cfp_tr hfp hf2) hp2) ?_
        rintro _ _ ⟨w3, a3, hf3, rfl, ⟨rfl, ts3, cs3, ⟨hl3, hn3, hR3⟩, hp3⟩ | ⟨rfl, g, hg1, hg2, hg3, hg4⟩⟩
        · have hT3 := cTap_cfp he hT0 hf3
          refine r_step hk rfl rfl rfl ?_
          refine r_eq (fun hq9 => absurd hq9 (by decide)) (fun _ => ?_)
          iterate 2 refine r_step hk rfl rfl rfl ?_
          have hstk : ¬ stk = [] := j5
          have kst3 : kstep (kD ((0, 0, 0) :: stk) ts3 cs3 ls wy) = if (khd ts3).1 = 41 then kB stk ts3.tail cs3 ls wy else kfl 1 ts3 := (by rw [kD_st, if_neg (by decide), if_neg hn3, if_neg hstk])
          obtain ⟨m1, m2, m3, m4, m5, m6, m7, m8, m9, m10⟩ := kinv_R hin hR3
          have hltl3 := klen_tl m9
          obtain ⟨s1, s2, s3, s4, s5⟩ := kPp_tok hp3 hT3
          refine r_callV hk [.ref 32, .int 41] [] rfl rfl rfl rfl rfl rfl rfl (by omega) (c_take (c := 41) (by omega) he hT3 hp3 (by omega)) ?_
          rintro _ _ (⟨rfl, h41, w4, hf4, hp4, rfl⟩ | ⟨rfl, h41, rfl⟩)
          · rw [if_pos h41] at kst3
            refine r_step hk rfl rfl rfl ?_
            refine r_eq (fun hq9 => absurd hq9 (by decide)) (fun _ => ?_)
            iterate 2 refine r_step hk rfl rfl rfl ?_
            refine r_iret hk rfl (Or.inr rfl) ?_
            first | exact hQ _ _ ⟨w4, a3, cfp_tr hf3 hf4, rfl, Or.inl ⟨rfl, ts3.tail, cs3, ⟨by omega, kR_end hR3 kst3⟩, hp4⟩⟩ | exact hQ _ _ ⟨_, a3, cfp_tr hf3 (cfp_32 he _ _), rfl, Or.inr ⟨rfl, 1 + 16 * (khd ts3).2.2, by omega, by omega, upd2_same _ _ _ _, kR_end hR3 kst3⟩⟩ | exact hQ _ _ ⟨w3, a3, hf3, rfl, Or.inr ⟨rfl, g, hg1, hg2, hg3, hg4⟩⟩
          · rw [if_neg h41] at kst3
            refine r_step hk rfl rfl rfl ?_
            refine r_eq (fun _ => ?_) (fun hq9 => absurd (by decide) hq9)
            refine r_step hk rfl rfl rfl ?_
            refine r_iret hk rfl (Or.inl rfl) ?_
            first | exact hQ _ _ ⟨w4, a3, cfp_tr hf3 hf4, rfl, Or.inl ⟨rfl, ts3.tail, cs3, ⟨by omega, kR_end hR3 kst3⟩, hp4⟩⟩ | exact hQ _ _ ⟨_, a3, cfp_tr hf3 (cfp_32 he _ _), rfl, Or.inr ⟨rfl, 1 + 16 * (khd ts3).2.2, by omega, by omega, upd2_same _ _ _ _, kR_end hR3 kst3⟩⟩ | exact hQ _ _ ⟨w3, a3, hf3, rfl, Or.inr ⟨rfl, g, hg1, hg2, hg3, hg4⟩⟩
        · refine r_step hk rfl rfl rfl ?_
          refine r_eq (fun _ => ?_) (fun hq9 => absurd (by decide) hq9)
          refine r_step hk rfl rfl rfl ?_
          refine r_iret hk rfl (Or.inl rfl) ?_
          first | exact hQ _ _ ⟨w4, a3, cfp_tr hf3 hf4, rfl, Or.inl ⟨rfl, ts3.tail, cs3, ⟨by omega, kR_end hR3 kst3⟩, hp4⟩⟩ | exact hQ _ _ ⟨_, a3, cfp_tr hf3 (cfp_32 he _ _), rfl, Or.inr ⟨rfl, 1 + 16 * (khd ts3).2.2, by omega, by omega, upd2_same _ _ _ _, kR_end hR3 kst3⟩⟩ | exact hQ _ _ ⟨w3, a3, hf3, rfl, Or.inr ⟨rfl, g, hg1, hg2, hg3, hg4⟩⟩
      · rw [if_neg h40] at kst
        have hkc := kcode_lt j9 hpt h40
        have fin : ∀ (x : Int32) (l2 l3 : Int32), x = gco (kcode (khd ts)) → l2 = 0 → gX d 33 113 [some (.ref 32), some (.int (nI dp)), some (.int l2), some (.int l3)] [] (n, u, HP (upd2 w (22 + 5 * e) 4 (nI (base + cs.length + 1))) (upd2 a (23 + 5 * e) (base + cs.length) x) b r q y) Q := by
          intro x l2 l3 hx hl2
          subst hl2
          have hfa := cfp_tr hfp (cfp_add (e := e) (base := base) (w := w) (a := a) (k := base + cs.length) (Nat.le_add_right _ _) (nI (base + cs.length + 1)) x)
          have hpa := kPp_add he hp hx
          iterate 2 refine r_step hk rfl rfl rfl ?_
          refine r_callV hk [.ref 33] [] rfl rfl rfl rfl rfl rfl rfl (by omega) (c_pnext (by omega) he (cTap_cfp he hT0 hfa) hpa hne) ?_
          rintro _ _ ⟨rfl, w2, hf2, hp2, rfl⟩
          iterate 2 refine r_step hk rfl rfl rfl ?_
          refine r_eq (fun _ => ?_) (fun hq9 => absurd (show (0 : Int32) = 0 from rfl) hq9)
          iterate 2 refine r_step hk rfl rfl rfl ?_
          refine r_iret hk rfl (Or.inr rfl) ?_
          exact hQ _ _ ⟨w2, _, cfp_tr hfa hf2, rfl, Or.inl ⟨rfl, ts.tail, cs ++ [kcode (khd ts)], ⟨by omega, kR_end hR kst⟩, hp2⟩⟩
        by_cases h300 : (khd ts).1 = 300
        · have hkn : kcode (khd ts) = (khd ts).2.1 := by unfold kcode; rw [if_pos h300]
          have hn4 := j9.2.1 _ (khd_mem j9) h300
          iterate 5 refine r_step hk rfl rfl rfl ?_
          refine r_ne (fun _ => ?_) (fun hq9 => absurd hq9 (mt e40.mp h40))
          iterate 7 refine r_step hk rfl rfl rfl ?_
          refine r_ne (fun hq9 => absurd (e300.mpr h300) hq9) (fun _ => ?_)
          iterate 5 refine r_step hk rfl rfl rfl ?_
          refine r_ne (fun hq9 => absurd (by decide) hq9) (fun _ => ?_)
          iterate 2 refine r_step hk rfl rfl rfl ?_
          refine r_ne (fun _ => ?_) (fun hq9 => absurd hq9 (by decide))
          iterate 3 refine r_step hk rfl rfl rfl ?_
          refine r_le (fun _ => ?_) (fun hq9 => absurd hle hq9)
          iterate 2 refine r_step hk rfl rfl rfl ?_
          refine r_eq (fun hq9 => absurd hq9 (by decide)) (fun _ => ?_)
          refine r_step hk rfl rfl rfl ?_
          refine r_step hk rfl rfl rfl ?_
          rw [hr]
          iterate 3 refine r_step hk rfl rfl rfl ?_
          refine r_callV hk [.ref (22 + 5 * e), .int (w 33 4)] [] rfl rfl rfl rfl rfl rfl (grcv_ru he _) (by omega) (c_add he hp.2.2.1 (by omega) _) ?_
          rintro _ _ ⟨rfl, rfl⟩
          refine r_step hk rfl rfl rfl ?_
          exact fin _ _ _ (by rw [t5 h300, hkn, gco_n hn4]) rfl
        · have hfa : 206 ≤ (khd ts).1 ∧ (khd ts).1 < 212 := by unfold kIsPart at hpt; omega
          have hkn : kcode (khd ts) = 10000 + ((khd ts).1 - 206) := by unfold kcode; rw [if_neg h300]
          have hcd : -1 - nI ((khd ts).1 - 206) = gco (kcode (khd ts)) := by
            rw [hkn]
            unfold gco
            rw [if_neg (by omega), if_pos (by omega), show 10000 + ((khd ts).1 - 206) - 10000 = (khd ts).1 - 206 by omega]
          iterate 5 refine r_step hk rfl rfl rfl ?_
          refine r_ne (fun _ => ?_) (fun hq9 => absurd hq9 (mt e40.mp h40))
          iterate 7 refine r_step hk rfl rfl rfl ?_
          refine r_ne (fun _ => ?_) (fun hq9 => absurd hq9 (mt e300.mp h300))
          iterate 4 refine r_step hk rfl rfl rfl ?_
          refine r_ne (fun hq9 => absurd (by decide) hq9) (fun _ => ?_)
          iterate 2 refine r_step hk rfl rfl rfl ?_
          refine r_ne (fun hq9 => absurd (by decide) hq9) (fun _ => ?_)
          iterate 2 refine r_step hk rfl rfl rfl ?_
          refine r_callV hk [.ref 33] [] rfl rfl rfl rfl rfl rfl rfl (by omega) (c_isFact t1 t2) ?_
          rintro _ _ ⟨⟨hs, rfl⟩ | ⟨hs, rfl⟩, rfl⟩
          · refine r_step hk rfl rfl rfl ?_
            refine r_ne (fun _ => ?_) (fun hq9 => absurd hq9 (by decide))
            iterate 3 refine r_step hk rfl rfl rfl ?_
            refine r_le (fun _ => ?_) (fun hq9 => absurd hle hq9)
            iterate 2 refine r_step hk rfl rfl rfl ?_
            refine r_eq (fun _ => ?_) (fun hq9 => absurd (by decide) hq9)
            iterate 2 refine r_step hk rfl rfl rfl ?_
            refine r_ne (fun hq9 => absurd (by decide) hq9) (fun _ => ?_)
            refine r_step hk rfl rfl rfl ?_
            refine r_step hk rfl rfl rfl ?_
            rw [hr]
            iterate 3 refine r_step hk rfl rfl rfl ?_
            refine r_callV hk [.ref 33] [.int (-1), .ref (22 + 5 * e)] rfl rfl rfl rfl rfl rfl rfl (by omega) (c_factTold t1 hfa.1) ?_
            rintro _ _ ⟨rfl, rfl⟩
            refine r_step hk rfl rfl rfl ?_
            refine r_callV hk [.ref (22 + 5 * e), .int (-1 - nI ((khd ts).1 - 206))] [] rfl rfl rfl rfl rfl rfl (grcv_ru he _) (by omega) (c_add he hp.2.2.1 (by omega) _) ?_
            rintro _ _ ⟨rfl, rfl⟩
            exact fin _ _ _ hcd rfl
          · exact absurd hfa hs
  · rw [if_pos hpt] at kst
    iterate 5 refine r_step hk rfl rfl rfl ?_
    refine r_ne (fun _ => ?_) (fun hq9 => absurd hq9 (fun hc => hpt (Or.inl (e40.mp hc))))
    iterate 7 refine r_step hk rfl rfl rfl ?_
    refine r_ne (fun _ => ?_) (fun hq9 => absurd hq9 (fun hc => hpt (Or.inr (Or.inl (e300.mp hc)))))
    iterate 4 refine r_step hk rfl rfl rfl ?_
    refine r_ne (fun hq9 => absurd (by decide) hq9) (fun _ => ?_)
    iterate 2 refine r_step hk rfl rfl rfl ?_
    refine r_ne (fun hq9 => absurd (by decide) hq9) (fun _ => ?_)
    iterate 2 refine r_step hk rfl rfl rfl ?_
    refine r_callV hk [.ref 33] [] rfl rfl rfl rfl rfl rfl rfl (by omega) (c_isFact t1 t2) ?_
    rintro _ _ ⟨⟨hs, rfl⟩ | ⟨hs, rfl⟩, rfl⟩
    · exact absurd (Or.inr (Or.inr hs)) hpt
    · refine r_step hk rfl rfl rfl ?_
      refine r_ne (fun hq9 => absurd (by decide) hq9) (fun _ => ?_)
      iterate 2 refine r_step hk rfl rfl rfl ?_
      refine r_callV hk [.ref 32, .int 1] [] rfl rfl rfl rfl rfl rfl rfl (by omega) (c_wrong (k := 1) t3) ?_
      rintro _ _ ⟨rfl, rfl⟩
      refine r_iret hk rfl (Or.inl rfl) ?_
      exact hQ _ _ ⟨_, a, cfp_tr hfp (cfp_32 he _ _), rfl, Or.inr ⟨rfl, 1 + 16 * (khd ts).2.2, by omega, by omega, upd2_same _ _ _ _, kR_end hR kst⟩⟩
theorem c_tests_all (hX : kCx w0 a0 r f len e base st0 ls) : ∀ k dp, dp + k = 6 → cTests n u b r q y f len e base st0 w0 a0 ls wy dp := by
  intro k
  induction k with
  | zero =>
    intro dp h
    exact c_readTests hX (c_readTest hX (c_readSum hX (c_readPart hX (by omega) (fun h5 => absurd h5 (by omega))) (by omega)))
  | succ k ih =>
    intro dp h
    exact c_readTests hX (c_readTest hX (c_readSum hX (c_readPart hX (by omega) (fun _ => ih (dp + 1) (by omega))) (by omega)))
end GC12

/-! ===== the reference: ways, sorting, weeks ===== -/
def gmLine (a : Nat → Nat → Int32) (h i : Nat) (wp : Nat × List Nat) : Prop := ∃ s, a 51 (16 * h + i) = nI wp.1 ∧ a 52 (16 * h + i) = nI s ∧ s + wp.2.length < 1320 ∧ gmP (a 53) (a 54) s wp.2 ∧ gwf 0 wp.2 ∧ 1 ≤ wp.1 ∧ wp.1 ≤ 4
def gmLs (a : Nat → Nat → Int32) (h : Nat) : Nat → List (Nat × List Nat) → Prop
  | _, [] => True
  | i, wp :: t => gmLine a h i wp ∧ gmLs a h (i + 1) t
def gmText (a : Nat → Nat → Int32) (h : Nat) (ls : List (Nat × List Nat)) : Prop := a 50 h = nI ls.length ∧ ls.length ≤ 16 ∧ gmLs a h 0 ls
def gfa (a : Nat → Nat → Int32) (T t k : Nat) : Nat → Int32 := fun i => if i = 0 then a 61 t else if i = 1 then a 62 t else if i = 2 then a 63 t else if i = 3 then nI (T / 13 % 4) else if i = 4 then a 68 k else a 60 t
theorem gmLine_ag {a a' : Nat → Nat → Int32} {X : List Nat} (hag : gag X a a') (hX : 51 ∉ X ∧ 52 ∉ X ∧ 53 ∉ X ∧ 54 ∉ X) {h i : Nat} {wp : Nat × List Nat} (hl : gmLine a h i wp) : gmLine a' h i wp := by
  unfold gmLine
  rw [hag 51 hX.1, hag 52 hX.2.1, hag 53 hX.2.2.1, hag 54 hX.2.2.2]
  exact hl
theorem gmLs_ag {a a' : Nat → Nat → Int32} {X : List Nat} (hag : gag X a a') (hX : 51 ∉ X ∧ 52 ∉ X ∧ 53 ∉ X ∧ 54 ∉ X) {h : Nat} : ∀ (ls : List (Nat × List Nat)) (i : Nat), gmLs a h i ls → gmLs a' h i ls := by
  intro ls
  induction ls with
  | nil => intro i _; trivial
  | cons wp t ih => intro i hl; exact ⟨gmLine_ag hag hX hl.1, ih _ hl.2⟩
theorem gmText_ag {a a' : Nat → Nat → Int32} {X : List Nat} (hag : gag X a a') (hX : 50 ∉ X ∧ 51 ∉ X ∧ 52 ∉ X ∧ 53 ∉ X ∧ 54 ∉ X) {h : Nat} {ls : List (Nat × List Nat)} (hl : gmText a h ls) : gmText a' h ls := by
  refine ⟨?_, hl.2.1, gmLs_ag hag hX.2 ls 0 hl.2.2⟩
  rw [hag 50 hX.1]; exact hl.1
theorem gway_rng {a : Nat → Nat → Int32} {h : Nat} (f : Nat → Int32) : ∀ (ls : List (Nat × List Nat)) (i : Nat), gmLs a h i ls → 1 ≤ gway f ls ∧ gway f ls ≤ 4 := by
  intro ls
  induction ls with
  | nil => intro i _; simp [gway]
  | cons wp t ih =>
    intro i hl
    obtain ⟨z, p⟩ := wp
    simp only [gway]
    split
    · exact ih _ hl.2
    · obtain ⟨s, -, -, -, -, -, h1, h4⟩ := hl.1
      exact ⟨h1, h4⟩
theorem nI_16 (s k : Nat) : 16 * nI s + nI k = nI (16 * s + k) := by
  rw [show (16 : Int32) = nI 16 from rfl, pk_mul, nI_add]
section GM5
variable {w a : Nat → Nat → Int32} {b : Nat → Nat → Int64} {r : Nat → Nat → Nat} {q : Nat → Nat → Option Nat} {y : gH} {n u : Nat} {d : Nat}
theorem m_wayOf (hd : 1 ≤ d) {T t k h : Nat} (hT : w 44 24 = nI T) (hT1 : T < 1000) (ht : t < 100) (hk8 : k < 8) (hkd : a 61 t = nI k) (hh : w 44 15 = nI h) (hh1 : h < 2) {ls : List (Nat × List Nat)} (hls : gmText a h ls) : gE d 123 [.ref 44, .int (nI t)] (n, u, HP w a b r q y) (fun v S' => ∃ a', gag [58, 59] a a' ∧ v = some (.int (nI (gway (gfa a T t k) ls))) ∧ S' = (n, u, HP w a' b r q y)) := by
  have hk : gMT[123]? = some gro_123 := rfl
  refine r_in hk [some (.ref 44), some (.int (nI t)), none] (Nat.le_of_ble_eq_true rfl) rfl ?_
  obtain ⟨hln, h16, hlines⟩ := hls
  have loop : ∀ (rs : List (Nat × List Nat)) (i : Nat) (a1 : Nat → Nat → Int32) (z : Int32), gmLs a h i rs → i + rs.length = ls.length → gag [58, 59] a a1 → (∀ k', k' < 6 → a1 58 k' = gfa a T t k k') → gway (gfa a T t k) rs = gway (gfa a T t k) ls → z = nI (16 * h + i) →
      gX d 123 83 [some (.ref 44), some (.int (nI t)), some (.int z)] [] (n, u, HP w a1 b r q y) (fun v S' => ∃ a', gag [58, 59] a a' ∧ v = some (.int (nI (gway (gfa a T t k) ls))) ∧ S' = (n, u, HP w a' b r q y)) := by
    intro rs
    induction rs with
    | nil =>
      intro i a1 z hl hi hag hf hw hz
      have e50 : a1 50 = a 50 := hag 50 (by decide)
      iterate 9 refine r_step hk rfl rfl rfl ?_
      refine r_ia hk (h) rfl rfl hh (by omega) rfl ?_
      iterate 2 refine r_step hk rfl rfl rfl ?_
      refine r_ge (fun _ => ?_) (fun hq9 => absurd (show 16 * w 44 15 + a1 50 h ≤ z by rw [hz, hh, e50, hln, nI_16]; exact nI_le (by simp at hi; omega) (by omega)) hq9)
      refine r_step hk rfl rfl rfl ?_
      refine r_iret hk rfl trivial ?_
      exact ⟨a1, hag, by rw [← hw]; rfl, rfl⟩
    | cons wp rs ih =>
      intro i a1 z hl hi hag hf hw hz
      have e50 : a1 50 = a 50 := hag 50 (by decide)
      have e51 : a1 51 = a 51 := hag 51 (by decide)
      have e52 : a1 52 = a 52 := hag 52 (by decide)
      have e53 : a1 53 = a 53 := hag 53 (by decide)
      have e54 : a1 54 = a 54 := hag 54 (by decide)
      obtain ⟨s, hs1, hs2, hs3, hs4, hs5, hs6, hs7⟩ := hl.1
      obtain ⟨wy, p⟩ := wp
      have hi2 : i < ls.length := by simp at hi; omega
      have hev : gevv (a1 58) p = gevv (gfa a T t k) p := gevv_congr hf p
      iterate 9 refine r_step hk rfl rfl rfl ?_
      refine r_ia hk (h) rfl rfl hh (by omega) rfl ?_
      iterate 2 refine r_step hk rfl rfl rfl ?_
      refine r_ge (fun hq9 => absurd hq9 (show ¬ 16 * w 44 15 + a1 50 h ≤ z by rw [hz, hh, e50, hln, nI_16]; exact nI_ge (by omega) (by omega))) (fun _ => ?_)
      iterate 4 refine r_step hk rfl rfl rfl ?_
      refine r_ia hk (16 * h + i) rfl rfl hz (by omega) rfl ?_
      refine r_callV hk [.ref 44, .int (a1 52 (16 * h + i))] [] rfl rfl rfl rfl rfl rfl rfl (by omega) (by rw [e52, hs2]; exact m_valueOf (by rw [e53, e54]; exact hs4) hs3 hs5) ?_
      rintro _ _ ⟨a2, hag2, rfl, rfl⟩
      refine r_step hk rfl rfl rfl ?_
      refine r_eq (fun h114 => ?_) (fun h114 => ?_)
      · iterate 2 refine r_step hk rfl rfl rfl ?_
        exact ih (i + 1) a2 _ hl.2 (by simp at hi; omega) (gag_tr hag (gag_sub hag2 (by decide))) (fun k' hk' => by rw [hag2 58 (by decide)]; exact hf k' hk') (by rw [← hw]; simp only [gway, if_pos (hev ▸ h114)]) (by rw [hz]; exact nI_1 _)
      · iterate 3 refine r_step hk rfl rfl rfl ?_
        refine r_ia hk (16 * h + i) rfl rfl hz (by omega) rfl ?_
        refine r_iret hk rfl trivial ?_
        exact ⟨a2, gag_tr hag (gag_sub hag2 (by decide)), by rw [← hw]; simp only [gway, if_neg (hev ▸ h114)]; rw [hag2 51 (by decide), e51, hs1], rfl⟩
  iterate 6 refine r_step hk rfl rfl rfl ?_
  refine r_ia hk (t) rfl rfl rfl ht rfl ?_
  refine r_is hk (0) rfl rfl rfl rfl (by decide) rfl rfl ?_
  iterate 6 refine r_step hk rfl rfl rfl ?_
  refine r_ia hk (t) rfl rfl rfl ht rfl ?_
  refine r_is hk (1) rfl rfl rfl rfl (by decide) rfl rfl ?_
  iterate 6 refine r_step hk rfl rfl rfl ?_
  refine r_ia hk (t) rfl rfl rfl ht rfl ?_
  refine r_is hk (2) rfl rfl rfl rfl (by decide) rfl rfl ?_
  iterate 4 refine r_step hk rfl rfl rfl ?_
  refine r_callV hk [.ref 44] [.int 3, .ref 58] rfl rfl rfl rfl rfl rfl rfl (by omega) (m_seasonNow hT hT1) ?_
  rintro _ _ ⟨rfl, rfl⟩
  refine r_is hk (3) rfl rfl rfl rfl (by decide) rfl rfl ?_
  iterate 8 refine r_step hk rfl rfl rfl ?_
  refine r_ia hk (t) rfl rfl rfl ht rfl ?_
  refine r_ia hk (k) rfl rfl hkd hk8 rfl ?_
  refine r_is hk (4) rfl rfl rfl rfl (by decide) rfl rfl ?_
  iterate 6 refine r_step hk rfl rfl rfl ?_
  refine r_ia hk (t) rfl rfl rfl ht rfl ?_
  refine r_is hk (5) rfl rfl rfl rfl (by decide) rfl rfl ?_
  iterate 5 refine r_step hk rfl rfl rfl ?_
  exact loop ls 0 _ _ hlines (by omega) (gag_up (gag_up (gag_up (gag_up (gag_up (gag_up gag_rf (by decide)) (by decide)) (by decide)) (by decide)) (by decide)) (by decide)) (fun k' hk' => by match k', hk' with | 0, _ => rfl | 1, _ => rfl | 2, _ => rfl | 3, _ => rfl | 4, _ => rfl | 5, _ => rfl) rfl (by rw [show (16 : Int32) = nI 16 from rfl]; show nI 16 * w 44 15 = _; rw [hh, pk_mul]; rfl)
end GM5

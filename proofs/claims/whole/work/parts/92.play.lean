section ZPLAY
theorem stepDown_gen {H : HS} {p : Int} (hn : 1 ≤ H 9 8 ∧ H 9 8 ≤ 200) (hp : 0 ≤ p ∧ p < H 9 8) (h11 : 0 ≤ H 11 p ∧ H 11 p < 64) (h12 : 0 ≤ H 12 p ∧ H 12 p < 64) : fX5_stepDown p H = some (hs (hs (mvC (H 11 p) (H 12 p) H) 13 p (H 8 (H 12 p))) 0 8 p) := by
  have hz : zr p := by unfold zr; omega
  unfold fX5_stepDown fX4_from fX4_to fX4_keepTaken
  rw [pX4_row hz hn hp, pX4_row hz hn hp, Option.bind_some, Option.bind_some, ucX0_move h11 h12, Option.bind_some]
  have e9 : mvC (H 11 p) (H 12 p) H 9 8 = H 9 8 := by rw [mvC_at (by decide)]
  rw [pX4_has hz (by simp only [e9]; exact hn), if_pos (by simp only [e9]; exact hp), Option.bind_some, if_neg (show ¬ wr 1 = 0 by decide), if_pos (by omega), Option.bind_some]
abbrev mC (X T : HS) (p : Int) (h : HS) : Prop := (∀ (a : Nat) (b : Int), a < 30 → ¬ scr a b → ¬ (a = 8 ∨ (a = 0 ∧ b = 8)) → X a b = T a b) ∧ X 0 8 = p ∧ (∀ s : Int, 0 ≤ s → s < 64 → X 8 s = bd T p s) ∧ (∀ a : Nat, 30 ≤ a → X a = h a)
abbrev mM (Y T : HS) (p : Int) (g : HS) : Prop := (∀ (a : Nat) (b : Int), 30 ≤ a → ¬ scr a b → ¬ (a = 35 ∨ (a = 30 ∧ b = 9)) → Y a b = T a b) ∧ Y 30 9 = p ∧ (∀ s : Int, 0 ≤ s → s < 64 → Y 35 s = bd T p s) ∧ (∀ a : Nat, a < 30 → Y a = g a) ∧ Y 50 = g 50 ∧ Y 30 0 = g 30 0 ∧ Y 42 = g 42
def folT (f t : Int) (h : HS) : HS := if knV h f t = -1 then grA f t h else h
def folP (f t : Int) (h : HS) : Int := if knV h f t = -1 then h 9 8 else knV h f t
theorem followC {h : HS} (w : PsiC h) {f t : Int} (hf : 0 ≤ f ∧ f < 64) (ht : 0 ≤ t ∧ t < 64) (hs1 : ¬ (knV h f t = -1 ∧ 200 ≤ h 9 8)) : ∃ X, fX5_follow f t h = some (1, X) ∧ mC X (folT f t h) (folP f t h) h ∧ (X 24 = h 24 ∧ ∀ b : Int, b ≠ 8 → X 0 b = h 0 b) := by
  have n := w.P.n
  have n1 := w.R.n
  unfold fX5_follow fX5_follow_b48 fX4_size folT folP
  rw [knC w hf ht, Option.bind_some]
  by_cases hk : knV h f t = -1
  · have hN : h 9 8 < 200 := by
      rcases (show h 9 8 < 200 ∨ 200 ≤ h 9 8 by omega) with k | k
      · exact k
      · exact absurd ⟨hk, k⟩ hs1
    have G9 : grG f t h 9 8 = h 9 8 + 1 := rfl
    have G11 : grG f t h 11 (h 9 8) = f := by show (if h 9 8 = h 9 8 then f else _) = f; rw [if_pos rfl]
    have G12 : grG f t h 12 (h 9 8) = t := by show (if h 9 8 = h 9 8 then t else _) = t; rw [if_pos rfl]
    have es := stepDown_gen (H := grG f t h) (p := h 9 8) (by rw [G9]; omega) (by rw [G9]; omega) (by rw [G11]; exact hf) (by rw [G12]; exact ht)
    rw [G11, G12] at es
    rw [hk, if_pos (show wr (-1) = -1 by decide), Option.bind_some, wr_of (z := h 9 8) (by omega) (by omega), if_pos hN, growC w hN, Option.bind_some, es, Option.bind_some, if_pos rfl, if_pos rfl]
    have Gl : ∀ a : Nat, a ≠ 13 → a < 30 → grG f t h a = grA f t h a := fun a h13 h30 => by
      unfold grG
      rw [if_neg h13, if_pos h30]
    have Gg : ∀ a : Nat, 30 ≤ a → grG f t h a = h a := fun a h30 => by
      unfold grG
      rw [if_neg (by omega), if_neg (by omega)]
    have G8 : grG f t h 8 = h 8 := by rw [Gl 8 (by decide) (by decide), grA_ne (by decide)]
    refine ⟨_, rfl, ⟨fun a b h30 hn hm => ?_, by rw [hs_self], fun s s0 s1 => ?_, fun a h30 => ?_⟩, by rw [hs_ne _ _ _ (by decide), hs_ne _ _ _ (by decide), mvC_at (by decide), Gl 24 (by decide) (by decide), grA_ne (by decide)], fun b hb => by rw [hs_at, if_pos rfl, if_neg hb, hs_ne _ _ _ (by decide), mvC_at (by decide), Gl 0 (by decide) (by decide), grA_ne (by decide)]⟩
    · have a8 : a ≠ 8 := fun k => hm (Or.inl k)
      by_cases a0 : a = 0
      · subst a0
        rw [hs_at, if_pos rfl, if_neg (fun k => hm (Or.inr ⟨rfl, k⟩)), hs_ne _ _ _ (by decide), mvC_at (by decide), Gl 0 (by decide) (by decide)]
      · rw [hs_ne _ _ _ a0]
        by_cases a13 : a = 13
        · subst a13
          rw [hs_at, if_pos rfl, mvC_at (by decide), G8, grA_13]
          show (if b = h 9 8 then h 8 t else (if b = h 9 8 then -1 else h 13 b)) = _
          by_cases hb : b = h 9 8
          · rw [if_pos hb, if_pos hb]
          · rw [if_neg hb, if_neg hb, if_neg hb]
        · rw [hs_ne _ _ _ a13, mvC_at a8, Gl a a13 h30]
    · rw [hs_ne _ _ _ (by decide), hs_ne _ _ _ (by decide), mvC_8, G8, bd_grN w]
      unfold mv
      rw [w.P.b s s0 s1, w.P.b f hf.1 hf.2]
    · rw [hs_ne _ _ _ (by omega), hs_ne _ _ _ (by omega), mvC_at (by omega), Gg a h30]
  · obtain ⟨⟨k1, k2⟩, k3, k4, k5⟩ := knV_rg w hk
    have es := stepDown_at w k1 k2
    rw [k3, atN_self w] at es
    rw [wr_of (z := knV h f t) (by omega) (by omega), if_neg hk, es, Option.bind_some, if_neg hk, if_neg hk]
    refine ⟨_, rfl, ⟨fun a b h30 hn hm => ?_, atN_08, fun s s0 s1 => atN_8 ⟨s0, s1⟩, fun a h30 => atN_ne (by omega) (by omega)⟩, atN_ne (by decide) (by decide), fun b hb => atN_0 hb⟩
    by_cases a0 : a = 0
    · subst a0
      exact atN_0 (fun k => hm (Or.inr ⟨rfl, k⟩))
    · rw [atN_ne (fun k => hm (Or.inl k)) a0]
theorem followN {h : HS} (w : PsiC h) {f t : Int} (hf : 0 ≤ f ∧ f < 64) (ht : 0 ≤ t ∧ t < 64) (hs1 : knV h f t = -1 ∧ 200 ≤ h 9 8) : fX5_follow f t h = some (0, h) := by
  have n1 := w.R.n
  unfold fX5_follow fX4_size
  rw [knC w hf ht, Option.bind_some, hs1.1, if_pos (show wr (-1) = -1 by decide), Option.bind_some, wr_of (z := h 9 8) (by omega) (by omega), if_neg (by omega)]
theorem playOnB {h g : HS} (w : Psi h) (e : zqm g h) {f t p : Int} (hf : 0 ≤ f ∧ f < 64) (ht : 0 ≤ t ∧ t < 64) : fX6_playOn_b120 f t p g = some (mvM f t (hs g 30 9 p)) := by
  unfold fX6_playOn_b120
  rw [umX6_play hf ht, Option.bind_some]
theorem playOnK {h g : HS} (w : Psi h) (e : zqm g h) {f t : Int} (hk : ¬ knV h f t = -1) : mM (mvM f t (hs g 30 9 (knV h f t))) (folT f t h) (folP f t h) g := by
  obtain ⟨⟨k1, k2⟩, k3, k4, k5⟩ := knV_rg w.cc hk
  unfold folT folP
  rw [if_neg hk, if_neg hk]
  refine ⟨fun a b h30 hn hm => ?_, by rw [mvM_at (by decide), hs_self], fun s s0 s1 => ?_, fun a ha => by rw [mvM_at (by omega), hs_ne _ _ _ (by omega)], by rw [mvM_at (by decide), hs_ne _ _ _ (by decide)], by rw [mvM_at (by decide), hs_at, if_pos rfl, if_neg (by decide)], by rw [mvM_at (by decide), hs_ne _ _ _ (by decide)]⟩
  · rw [mvM_at (fun k => hm (Or.inl k))]
    by_cases a30 : a = 30
    · subst a30
      rw [hs_at, if_pos rfl, if_neg (fun k => hm (Or.inr ⟨rfl, k⟩))]
      exact e 30 b h30 hn
    · rw [hs_ne _ _ _ a30]
      exact e a b h30 hn
  · obtain ⟨a1, a2, a3, a4, a5, a6⟩ := w.P.t _ k1 k2
    rw [mvM_35, hs_ne _ _ _ (by decide), e.c (a := 35) (by decide), w.P.bs w.R k1 k2, k3, k4, k5]
    rw [k4] at a3
    unfold mv
    rw [(w.P.b s s0 s1).2, (w.P.b f a3.1 a3.2).2]
theorem playOnR {h g : HS} (w : Psi h) (e : zqm g h) {f t : Int} (hf : 0 ≤ f ∧ f < 64) (ht : 0 ≤ t ∧ t < 64) (hs1 : ¬ (knV h f t = -1 ∧ 200 ≤ h 9 8)) : ∃ Y, fX6_playOn f t g = some Y ∧ mM Y (folT f t h) (folP f t h) g := by
  have n := w.P.n
  have n1 := w.R.n
  have n2 := w.R.n2
  have c0 := (w.R.g (h 0 8) n.1.1 n.1.2).2.2.2.2
  have d0 := w.P.dp w.R (h 0 8) n.1.1 n.1.2
  have g8 : g 30 8 = h 9 8 := by rw [e.c30 (by decide), n2]
  have g9 : g 30 9 = h 0 8 := by rw [e.c30 (by decide), n.2]
  unfold fX6_playOn
  rw [knR w e hf ht, Option.bind_some]
  by_cases hk : knV h f t = -1
  · have hN : h 9 8 < 200 := by
      rcases (show h 9 8 < 200 ∨ 200 ≤ h 9 8 by omega) with k | k
      · exact k
      · exact absurd ⟨hk, k⟩ hs1
    rw [hk, if_pos (show wr (-1) = -1 by decide), if_pos (by omega), if_pos (by omega), if_pos (by omega)]
    have z1 : hz (hs g 30 8 (g 30 8 + 1)) 90 30 9 = h 0 8 := by rw [hz_ne _ (by decide), hs_at, if_pos rfl, if_neg (by decide), g9]
    rw [z1, g8]
    obtain ⟨S1, eS1⟩ : ∃ S1, S1 = hs (hs (hs (hz (hs g 30 8 (h 9 8 + 1)) 90) 90 0 (h 0 8)) 90 1 f) 90 2 t := ⟨_, rfl⟩
    rw [← eS1]
    have S1ne : ∀ a : Nat, a ≠ 90 → a ≠ 30 → S1 a = g a := fun a a1 a2 => by rw [eS1, hs_ne _ _ _ a1, hs_ne _ _ _ a1, hs_ne _ _ _ a1, hz_ne _ a1, hs_ne _ _ _ a2]
    have S130 : ∀ b, S1 30 b = if b = 8 then h 9 8 + 1 else g 30 b := fun b => by rw [eS1, hs_ne _ _ _ (by decide), hs_ne _ _ _ (by decide), hs_ne _ _ _ (by decide), hz_ne _ (by decide), hs_at, if_pos rfl]
    have e37 := e.c (a := 37) (by decide)
    have S19 : S1 30 9 = h 0 8 := by rw [S130, if_neg (by decide), g9]
    rw [S19, (pX6_get w (g := S1) (by rw [S1ne 37 (by decide) (by decide), e37]) n.1).2.2.2.1, Option.bind_some, if_pos (by omega), if_pos (by omega), if_pos (by omega)]
    obtain ⟨S2, eS2⟩ : ∃ S2, S2 = hcp (hs (hs S1 90 3 (h 14 (h 0 8) + 1)) 90 4 0) 90 0 37 (5 * h 9 8) 5 := ⟨_, rfl⟩
    rw [← eS2]
    have S2ne : ∀ a : Nat, a ≠ 90 → a ≠ 37 → S2 a = S1 a := fun a a1 a2 => by rw [eS2, hcp_ne _ _ _ _ _ a2, hs_ne _ _ _ a1, hs_ne _ _ _ a1]
    have S29 : S2 30 9 = h 0 8 := by rw [S2ne 30 (by decide) (by decide), S19]
    have S2_37 : ∀ x, S2 37 x = if 5 * h 9 8 ≤ x ∧ x < 5 * h 9 8 + 5 then (if x = 5 * h 9 8 then h 0 8 else if x = 5 * h 9 8 + 1 then f else if x = 5 * h 9 8 + 2 then t else if x = 5 * h 9 8 + 3 then h 14 (h 0 8) + 1 else 0) else h 37 x := fun x => by
      rw [eS2, hcp_eq]
      show (if _ then _ else _) = _
      by_cases hx : 5 * h 9 8 ≤ x ∧ x < 5 * h 9 8 + 5
      · rw [if_pos hx, if_pos hx, eS1]
        simp only [hs_at, if_pos, if_true]
        rcases (show x = 5 * h 9 8 ∨ x = 5 * h 9 8 + 1 ∨ x = 5 * h 9 8 + 2 ∨ x = 5 * h 9 8 + 3 ∨ x = 5 * h 9 8 + 4 by omega) with k | k | k | k | k
        · subst k
          rw [if_neg (by omega), if_neg (by omega), if_neg (by omega), if_neg (by omega), if_pos (by omega), if_pos rfl]
        · subst k
          rw [if_neg (by omega), if_neg (by omega), if_neg (by omega), if_pos (by omega), if_neg (by omega), if_pos rfl]
        · subst k
          rw [if_neg (by omega), if_neg (by omega), if_pos (by omega), if_neg (by omega), if_neg (by omega), if_pos rfl]
        · subst k
          rw [if_neg (by omega), if_pos (by omega), if_neg (by omega), if_neg (by omega), if_neg (by omega), if_pos rfl]
        · subst k
          rw [if_pos (by omega), if_neg (by omega), if_neg (by omega), if_neg (by omega), if_neg (by omega)]
      · rw [if_neg hx, if_neg hx, hs_ne _ _ _ (by decide), hs_ne _ _ _ (by decide), S1ne 37 (by decide) (by decide), e37]
    have S2g : fX6_get (S2 30 9) 4 S2 = some (h 15 (h 0 8)) := by
      unfold fX6_get
      rw [S29, if_pos (by omega), S2_37, if_neg (by omega), (w.R.f (h 0 8) n.1.1 n.1.2).2.2.2.2]
    rw [S2g, Option.bind_some, S29, if_pos (by omega)]
    obtain ⟨S3, eS3⟩ : ∃ S3, S3 = hs S2 38 (200 * h 0 8 + h 15 (h 0 8)) (h 9 8) := ⟨_, rfl⟩
    rw [← eS3]
    have S3ne : ∀ a : Nat, a ≠ 38 → S3 a = S2 a := fun a a1 => by rw [eS3, hs_ne _ _ _ a1]
    have S39 : S3 30 9 = h 0 8 := by rw [S3ne 30 (by decide), S29]
    have S3c : S3 37 (5 * h 0 8 + 4) = h 15 (h 0 8) := by rw [S3ne 37 (by decide), S2_37, if_neg (by omega), (w.R.f (h 0 8) n.1.1 n.1.2).2.2.2.2]
    rw [S39, if_pos (by omega), S3c]
    unfold fX6_playOn_b120
    rw [umX6_play hf ht, Option.bind_some]
    unfold folT folP
    rw [if_pos hk, if_pos hk]
    obtain ⟨S4, eS4⟩ : ∃ S4, S4 = hz (hs S3 37 (5 * h 0 8 + 4) (h 15 (h 0 8) + 1)) 90 := ⟨_, rfl⟩
    rw [← eS4]
    have S4ne : ∀ a : Nat, a ≠ 90 → a ≠ 37 → S4 a = S3 a := fun a a1 a2 => by rw [eS4, hz_ne _ a1, hs_ne _ _ _ a2]
    have S4o : ∀ a : Nat, a ≠ 90 → a ≠ 37 → a ≠ 38 → a ≠ 30 → S4 a = g a := fun a a1 a2 a3 a4 => by rw [S4ne a a1 a2, S3ne a a3, S2ne a a1 a2, S1ne a a1 a4]
    have S430 : ∀ b, S4 30 b = if b = 8 then h 9 8 + 1 else g 30 b := fun b => by rw [S4ne 30 (by decide) (by decide), S3ne 30 (by decide), S2ne 30 (by decide) (by decide), S130]
    refine ⟨mvM f t (hs S4 30 9 (h 9 8)), if_pos (by omega), fun a b h30 hn hm => ?_, by rw [mvM_at (by decide), hs_self], fun s s0 s1 => ?_, fun a ha => by rw [mvM_at (by omega), hs_ne _ _ _ (by omega), S4o a (by omega) (by omega) (by omega) (by omega)], by rw [mvM_at (by decide), hs_ne _ _ _ (by decide), S4o 50 (by decide) (by decide) (by decide) (by decide)], by rw [mvM_at (by decide), hs_at, if_pos rfl, if_neg (by decide), S430, if_neg (by decide)], by rw [mvM_at (by decide), hs_ne _ _ _ (by decide), S4o 42 (by decide) (by decide) (by decide) (by decide)]⟩
    · have a90 : a ≠ 90 := fun k => hn (Or.inl (by omega))
      rw [mvM_at (fun k => hm (Or.inl k))]
      by_cases a30 : a = 30
      · subst a30
        rw [hs_at, if_pos rfl, if_neg (fun k => hm (Or.inr ⟨rfl, k⟩)), S430, grA_30]
        by_cases hb : b = 8
        · rw [if_pos hb, if_pos hb]
        · rw [if_neg hb, if_neg hb]
          exact e 30 b h30 hn
      · rw [hs_ne _ _ _ a30]
        by_cases a37 : a = 37
        · subst a37
          rw [eS4, hz_ne _ (by decide), hs_at, if_pos rfl, S3ne 37 (by decide), S2_37, grA_37]
          by_cases hx : 5 * h 9 8 ≤ b ∧ b < 5 * h 9 8 + 5
          · rw [if_neg (by omega), if_pos hx]
            rcases (show b = 5 * h 9 8 ∨ b = 5 * h 9 8 + 1 ∨ b = 5 * h 9 8 + 2 ∨ b = 5 * h 9 8 + 3 ∨ b = 5 * h 9 8 + 4 by omega) with k | k | k | k | k
            · rw [if_pos k, if_pos k]
            · rw [if_neg (by omega), if_pos k, if_neg (by omega), if_pos k]
            · rw [if_neg (by omega), if_neg (by omega), if_pos k, if_neg (by omega), if_neg (by omega), if_pos k]
            · rw [if_neg (by omega), if_neg (by omega), if_neg (by omega), if_pos k, if_neg (by omega), if_neg (by omega), if_neg (by omega), if_pos k]
            · rw [if_neg (by omega), if_neg (by omega), if_neg (by omega), if_neg (by omega), if_neg (by omega), if_neg (by omega), if_neg (by omega), if_neg (by omega), if_pos k]
          · rw [if_neg hx, if_neg (show ¬ b = 5 * h 9 8 by omega), if_neg (show ¬ b = 5 * h 9 8 + 1 by omega), if_neg (show ¬ b = 5 * h 9 8 + 2 by omega), if_neg (show ¬ b = 5 * h 9 8 + 3 by omega), if_neg (show ¬ b = 5 * h 9 8 + 4 by omega)]
        · by_cases a38 : a = 38
          · subst a38
            rw [S4ne 38 (by decide) (by decide), eS3, hs_at, if_pos rfl, S2ne 38 (by decide) (by decide), S1ne 38 (by decide) (by decide), e.c (a := 38) (by decide), grA_38]
          · rw [S4o a a90 a37 a38 a30, grA_ne (by omega)]
            exact e a b h30 hn
    · rw [mvM_35, hs_ne _ _ _ (by decide), S4o 35 (by decide) (by decide) (by decide) (by decide), e.c (a := 35) (by decide), bd_grN w.cc]
      unfold mv
      rw [(w.P.b s s0 s1).2, (w.P.b f hf.1 hf.2).2]
  · obtain ⟨⟨k1, k2⟩, k3, k4, k5⟩ := knV_rg w.cc hk
    rw [wr_of (z := knV h f t) (by omega) (by omega), if_neg hk, playOnB w e hf ht]
    exact ⟨_, rfl, playOnK w e hk⟩
theorem folT_psi {h : HS} (w : Psi h) {f t : Int} (hf : 0 ≤ f ∧ f < 64) (ht : 0 ≤ t ∧ t < 64) (hb : 0 ≤ h 8 f) (hs1 : ¬ (knV h f t = -1 ∧ 200 ≤ h 9 8)) : Psi (folT f t h) ∧ 0 ≤ folP f t h ∧ folP f t h < folT f t h 9 8 := by
  have n := w.P.n.1
  unfold folT folP
  by_cases hk : knV h f t = -1
  · have hN : h 9 8 < 200 := by
      rcases (show h 9 8 < 200 ∨ 200 ≤ h 9 8 by omega) with k | k
      · exact k
      · exact absurd ⟨hk, k⟩ hs1
    rw [if_pos hk, if_pos hk]
    exact ⟨grA_psi w hN hf ht hb, by omega, by rw [grA_9]; omega⟩
  · obtain ⟨⟨k1, k2⟩, -⟩ := knV_rg w.cc hk
    rw [if_neg hk, if_neg hk]
    exact ⟨w, by omega, k2⟩
theorem fol_psi {T X Y o h g : HS} {p : Int} (wT : Psi T) (hp : 0 ≤ p ∧ p < T 9 8) (x : mC X T p h) (y : mM Y T p g) (o1 : ∀ (a : Nat) (b : Int), a < 30 → ¬ scr a b → o a b = X a b) (o2 : ∀ (a : Nat) (b : Int), 30 ≤ a → ¬ scr a b → o a b = Y a b) : Psi o := by
  refine wT.go hp (fun a b hn hm => ?_) ?_ ?_ (fun s s0 s1 => ?_) (fun s s0 s1 => ?_)
  · by_cases ha : a < 30
    · rw [o1 a b ha hn]
      exact x.1 a b ha hn (fun k => hm (by rcases k with k | k; exact Or.inl k; exact Or.inr (Or.inr (Or.inl k))))
    · rw [o2 a b (by omega) hn]
      exact y.1 a b (by omega) hn (fun k => hm (by rcases k with k | k; exact Or.inr (Or.inl k); exact Or.inr (Or.inr (Or.inr k))))
  · rw [o1 0 8 (by decide) (by decide), x.2.1]
  · rw [o2 30 9 (by decide) (by decide), y.2.1]
  · rw [o1 8 s (by decide) (by rintro (k | k | k) <;> omega), x.2.2.1 s s0 s1]
  · rw [o2 35 s (by decide) (by rintro (k | k | k) <;> omega), y.2.2.1 s s0 s1]
end ZPLAY

/-! the game, the reference's side, and the pairs -/
theorem kpl {N d : Nat} {X : lt_X} {I : Nat → Nat → Int32} {J : Nat → Nat → Int64} (m : Nat) (a0 a1 a2 a3 a4 bv a9 z : Int32) (b : Bool) (w k : Nat) (hw : w = 4294967295 ∨ w < 6) : KX9_plays_1 N d m a0 a1 a2 a3 a4 (nI (if b = true then 1 else 0)) bv (nI w) (nI k) a9 z (mkh X I J) = if w = 4294967295 then RX9_plays_30 N d m X a0 a1 a2 a3 a4 (nI (if b = true then 1 else 0)) (a9 + z) (nI k) (nI (k + 1)) I J else if btr b bv (a9 + z) = true then RX9_plays_30 N d m X a0 a1 a2 a3 a4 (nI (if b = true then 1 else 0)) (a9 + z) (nI k) (nI (k + 1)) I J else RX9_plays_30 N d m X a0 a1 a2 a3 a4 (nI (if b = true then 1 else 0)) bv (nI w) (nI (k + 1)) I J := by
  rw [kX9_plays_1 N d m, nI_add, nc_10]
  by_cases r : w = 4294967295
  · rw [nc_neg r, if_pos r]
  · rw [nc_nlt (by omega) (by omega), if_neg r]
    unfold btr
    cases b
    · simp only [Bool.false_eq_true, if_false, decide_eq_true_eq]
    · simp only [if_true, decide_eq_true_eq]
theorem mfw_lt (b : Bool) (g : Nat → Int32) (f : Nat) {s : Nat} (hs : s ≤ 6) : mfw b g f s = 4294967295 ∨ mfw b g f s < 6 := by
  rcases mfw_ok b g f s hs with ⟨h, -⟩ | ⟨h, -⟩
  · exact Or.inl h
  · exact Or.inr (by omega)
theorem playsL {N d : Nat} {X : lt_X} {I : Nat → Nat → Int32} {J : Nat → Nat → Int64} {T : Nat → Nat} (hT : TM (I 140) T) (hw : WF T) (hW : ∀ p k, p < T 2 → k < T 3 → I 143 (6 * p + k) = nI (wth T p k)) {p q n t r f : Nat} (hp : p < T 2) (hq : q < T 2) (hn : n ≤ 5) (hr : t + (r + 1) = n) (hf : f < 2 ^ T 3) (hin : ∀ f, f < 2 ^ T 3 → am_G am_prog (N + 30) (d + 1) 334 [.ref 135, .int (nI p), .int (nI q), .int (nI (t + 1)), .int (nI n), .int (nI f)] (mkh X I J) = some (.int (gvl (wth T) p q r (t + 1) f), (mkh X I J))) : ev (fun m => RX9_plays_0 N d m X (nI p) (nI q) (nI t) (nI n) (nI f) I J) 40 (some (.int (gvl (wth T) p q (r + 1) t f), mkh X (if t = 0 then u2 I 135 31 (nI (mfx (evn t) (fun s => gws (wth T) p q (evn t) s + gvl (wth T) p q r (t + 1) (f &&& nnot (2 ^ s))) f (gvl (wth T) p q r (t + 1) f) (T 3))) else I) J)) := by
  obtain ⟨h0, h1, h2, h3, h4, h5, h6⟩ := hw.1
  have h64 : 2 ^ T 3 ≤ 2 ^ 6 := Nat.pow_le_pow_right (by omega) h3
  have hz : gvl (wth T) p q (r + 1) t f = mfz (evn t) (fun s => gws (wth T) p q (evn t) s + gvl (wth T) p q r (t + 1) (f &&& nnot (2 ^ s))) f (gvl (wth T) p q r (t + 1) f) (T 3) := (mfz_eq h3 hf).symm
  rw [hz]
  generalize hb : evn t = b
  generalize hg : (fun s => gws (wth T) p q b s + gvl (wth T) p q r (t + 1) (f &&& nnot (2 ^ s))) = g
  have loop := lqc (run := fun m s => RX9_plays_30 N d m X (nI p) (nI q) (nI t) (nI n) (nI f) (nI (if b = true then 1 else 0)) (mfv b g f s) (nI (mfw b g f s)) (nI s) I J) (m := T 3) (c := 4) (B := 5) (R := some (.int (mfz b g f (gvl (wth T) p q r (t + 1) f) (T 3)), mkh X (if t = 0 then u2 I 135 31 (nI (mfx b g f (gvl (wth T) p q r (t + 1) f) (T 3))) else I) J)) ?_ ?_ (T 3) 0 (by omega)
  · refine ev_le (ev_s (fun m => ?_) loop) (by omega)
    rw [sX9_plays_0 N d m, nc_ne (by omega) (by omega) (by omega), no_m1]
    by_cases c : t % 2 = 0
    · have ce : b = true := by rw [← hb]; exact decide_eq_true c
      rw [if_pos ((n_par t (by omega)).mpr c), ce]
      rfl
    · have ce : b = false := by rw [← hb]; exact decide_eq_false c
      rw [if_neg (fun h => c ((n_par t (by omega)).mp h)), ce]
      rfl
  · intro s B hs e
    have hwl := mfw_lt b g f (s := s) (by omega)
    by_cases c : f.testBit s = true
    rotate_left
    · have e1 : mfw b g f (s + 1) = mfw b g f s := if_neg c
      have e2 : mfv b g f (s + 1) = mfv b g f s := by unfold mfv; rw [e1]
      rw [e1, e2] at e
      refine ev_le (ev_s (fun m => ?_) e) (by omega)
      rw [sX9_plays_30 N d m, tm3 hT, nc_nlt (by omega) (by omega), nc_ne (by omega) (by omega) (by omega), c9_has (by omega) (by omega), cI_some, kX9_plays_0 N d m, nc_10, if_neg c, nI_add]
    · have e4 : ev (fun m => RX9_plays_150 N d m X (nI p) (nI q) (nI t) (nI n) (nI f) (nI (if b = true then 1 else 0)) (mfv b g f s) (nI (mfw b g f s)) (nI s) (nI (f &&& nnot (2 ^ s))) (nI n) (nI (t + 1)) (nI q) (nI p) 135 (gws (wth T) p q b s) I J) (B + 1) _ := ev_s (fun m => by
        rw [sX9_plays_150 N d m, hin _ (and_nn_lt hf), cI_some, kpl m _ _ _ _ _ _ _ _ b _ _ hwl]
        have eg : gws (wth T) p q b s + gvl (wth T) p q r (t + 1) (f &&& nnot (2 ^ s)) = g s := by rw [← hg]
        rw [eg]
        by_cases c2 : mfw b g f s = 4294967295
        · have e1 : mfw b g f (s + 1) = s := (if_pos c).trans (if_pos c2)
          have e2 : mfv b g f (s + 1) = g s := by unfold mfv; rw [e1, if_neg (by omega)]
          rw [if_pos c2, e1, e2]
        · have e0 : mfv b g f s = g (mfw b g f s) := if_neg c2
          rw [if_neg c2, e0]
          by_cases c3 : btr b (g (mfw b g f s)) (g s) = true
          · have e1 : mfw b g f (s + 1) = s := (if_pos c).trans ((if_neg c2).trans (if_pos c3))
            have e2 : mfv b g f (s + 1) = g s := by unfold mfv; rw [e1, if_neg (by omega)]
            rw [if_pos c3, e1, e2]
          · have e1 : mfw b g f (s + 1) = mfw b g f s := (if_pos c).trans ((if_neg c2).trans (if_neg c3))
            have e2 : mfv b g f (s + 1) = g (mfw b g f s) := by unfold mfv; rw [e1, if_neg c2]
            rw [if_neg c3, e1, e2]) e
      have e5 : ev (fun m => RX9_plays_119 N d m X (nI p) (nI q) (nI t) (nI n) (nI f) (nI (if b = true then 1 else 0)) (mfv b g f s) (nI (mfw b g f s)) (nI s) (nI 0) (gws (wth T) p q b s) I J) (B + 2) _ := ev_s (fun m => by
        rw [sX9_plays_119 N d m, nc_eq rfl, no_shl (by omega), no_not (Nat.pow_lt_pow_right (by omega) (by omega)), no_and, nI_add]
        rfl) e4
      have e6 : ev (fun m => RX9_plays_77 N d m X (nI p) (nI q) (nI t) (nI n) (nI f) (nI (if b = true then 1 else 0)) (mfv b g f s) (nI (mfw b g f s)) (nI s) (nI 0) I J) (B + 3) _ := ev_s (fun m => by
        rw [sX9_plays_77 N d m, nc_eq rfl, nc_10, pk_mul, pk_mul, nI_add, nI_add, nc_in (by omega) (by omega), nc_in (by omega) (by omega), nI_clamp (by omega), nI_clamp (by omega), hW p s hp hs, hW q s hq hs]
        cases b <;> rfl) e5
      refine ev_s (fun m => ?_) e6
      rw [sX9_plays_30 N d m, tm3 hT, nc_nlt (by omega) (by omega), nc_ne (by omega) (by omega) (by omega), c9_has (by omega) (by omega), cI_some, kX9_plays_0 N d m, nc_10, if_pos c]
  · have hwl := mfw_lt b g f (s := T 3) h3
    have e3 : ev (fun m => RX9_plays_30 N d m X (nI p) (nI q) (nI t) (nI n) (nI f) (nI (if b = true then 1 else 0)) (mfz b g f (gvl (wth T) p q r (t + 1) f) (T 3)) (nI (mfx b g f (gvl (wth T) p q r (t + 1) f) (T 3))) (nI (T 3 + 1)) I J) 1 (some (.int (mfz b g f (gvl (wth T) p q r (t + 1) f) (T 3)), mkh X (if t = 0 then u2 I 135 31 (nI (mfx b g f (gvl (wth T) p q r (t + 1) f) (T 3))) else I) J)) := ev_0 (fun m => by
      rw [sX9_plays_30 N d m, tm3 hT, nc_lt (by omega) (by omega)]
      by_cases c : t = 0
      · rw [nc_eq c, if_pos c]
      · rw [nc_ne c (by omega) (by omega), if_neg c])
    have e4 : ev (fun m => RX9_plays_150 N d m X (nI p) (nI q) (nI t) (nI n) (nI f) (nI (if b = true then 1 else 0)) (mfv b g f (T 3)) (nI (mfw b g f (T 3))) (nI (T 3)) (nI f) (nI n) (nI (t + 1)) (nI q) (nI p) 135 (nI 0) I J) 2 _ := ev_s (fun m => by
      have z0 : ∀ v : Int32, nI 0 + v = v := fun v => Int32.zero_add v
      rw [sX9_plays_150 N d m, hin _ hf, cI_some, kpl m _ _ _ _ _ _ _ _ b _ _ hwl, z0]
      unfold mfz mfx
      by_cases c2 : mfw b g f (T 3) = 4294967295
      · rw [if_pos c2, if_pos c2, if_pos c2]
      · have e0 : mfv b g f (T 3) = g (mfw b g f (T 3)) := if_neg c2
        rw [if_neg c2, if_neg c2, if_neg c2, e0]
        by_cases c3 : btr b (g (mfw b g f (T 3))) (gvl (wth T) p q r (t + 1) f) = true
        · rw [if_pos c3, if_pos c3, if_pos c3]
        · rw [if_neg c3, if_neg c3, if_neg c3]) e3
    have e5 : ev (fun m => RX9_plays_119 N d m X (nI p) (nI q) (nI t) (nI n) (nI f) (nI (if b = true then 1 else 0)) (mfv b g f (T 3)) (nI (mfw b g f (T 3))) (nI (T 3)) (nI 1) (nI 0) I J) 3 _ := ev_s (fun m => by
      rw [sX9_plays_119 N d m, nc_ne (by omega) (by omega) (by omega), nI_add]
      rfl) e4
    have e6 : ev (fun m => RX9_plays_77 N d m X (nI p) (nI q) (nI t) (nI n) (nI f) (nI (if b = true then 1 else 0)) (mfv b g f (T 3)) (nI (mfw b g f (T 3))) (nI (T 3)) (nI 1) I J) 4 _ := ev_s (fun m => by
      rw [sX9_plays_77 N d m, nc_ne (by omega) (by omega) (by omega)]) e5
    refine ev_s (fun m => ?_) e6
    rw [sX9_plays_30 N d m, tm3 hT, nc_nlt (by omega) (by omega), nc_eq rfl]
theorem c9_playsR {N d : Nat} {X : lt_X} {I : Nat → Nat → Int32} {J : Nat → Nat → Int64} {T : Nat → Nat} (hT : TM (I 140) T) (hw : WF T) (hW : ∀ p k, p < T 2 → k < T 3 → I 143 (6 * p + k) = nI (wth T p k)) {p q n : Nat} (hp : p < T 2) (hq : q < T 2) (hn : n ≤ 5) (hN : 1000 ≤ N) : ∀ r d t f, t + r = n → 1 ≤ t → f < 2 ^ T 3 → am_G am_prog (N + 30) (d + r + 2) 334 [.ref 135, .int (nI p), .int (nI q), .int (nI t), .int (nI n), .int (nI f)] (mkh X I J) = some (.int (gvl (wth T) p q r t f), (mkh X I J)) := by
  intro r
  induction r with
  | zero =>
    intro d t f ht h1 hf
    rw [gX9_plays N (d + 0), sX9_plays_0 N (d + 0), nc_eq (by omega)]
    rfl
  | succ r ih =>
    intro d t f ht h1 hf
    have := playsL (N := N) (d := d + (r + 1)) (X := X) (I := I) (J := J) hT hw hW hp hq hn (t := t) (r := r) (f := f) (by omega) hf (fun f' hf' => ih d (t + 1) f' (by omega) (by omega) hf') (N + 30) (by omega)
    rw [if_neg (by omega)] at this
    rw [gX9_plays N (d + (r + 1))]
    exact this

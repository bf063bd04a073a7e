/-! best, bestSet: the reference's run and the pairs -/
theorem shF_rfl (I : Nat → Nat → Int32) (p : Nat) : shF I I p := ⟨fun _ _ _ _ => rfl, fun _ _ => rfl, fun _ _ => rfl⟩
theorem nI_ltT {x : Int32} {a : Nat} (ha : a < 2 ^ 31) : x < nI a ↔ x.toInt < a := by
  rw [Int32.lt_iff_toInt_lt, nI_toInt ha]
theorem c9_copies {N d : Nat} {X : lt_X} {I : Nat → Nat → Int32} {J : Nat → Nat → Int64} {Y : Nat → Nat → Int32} : ∀ k i, i + k = 6 → ∀ K : Nat → Nat → Int32, (∀ a, a ≠ 145 → K a = Y a) → (∀ j, j < i → K 145 j = Y 144 j) → ∃ M, (∀ a, a ≠ 145 → M a = Y a) ∧ (∀ j, j < 6 → M 145 j = Y 144 j) ∧ ∀ n, k < n → RX9_shares_29 N d n X (nI i) K J = some (.null, mkh X M J) := by
  intro k
  induction k with
  | zero =>
    intro i hi K f b
    refine ⟨K, f, fun j hj => b j (by omega), fun n hn => ?_⟩
    obtain ⟨n, rfl⟩ : ∃ y, n = y + 1 := ⟨n - 1, by omega⟩
    rw [sX9_shares_29 N d n, nc_nlt (by omega) (by omega)]
  | succ k ih =>
    intro i hi K f b
    obtain ⟨M, m1, m2, m3⟩ := ih (i + 1) (by omega) (u2 K 145 i (K 144 i)) (fun a ha => by rw [u2_na _ _ _ _ _ ha, f a ha]) (fun j hj => by
      by_cases q : j = i
      · subst q; rw [u2_at, f 144 (by omega)]
      · rw [u2_nk _ _ _ _ _ q]; exact b j (by omega))
    refine ⟨M, m1, m2, fun n hn => ?_⟩
    obtain ⟨n, rfl⟩ : ∃ y, n = y + 1 := ⟨n - 1, by omega⟩
    rw [sX9_shares_29 N d n, nc_lt (by omega) (by omega), nc_in (by omega) (by omega), nc_in (by omega) (by omega), nI_clamp (by omega), nI_add]
    exact m3 n (by omega)
theorem c9_shares {N : Nat} {X : lt_X} {J : Nat → Nat → Int64} {T : Nat → Nat} {ppl : Nat} (hw : WF T) (hpl : ppl < 2 ^ T 2) (hN : 1000 ≤ N) : ∀ r p d g sum I, p + r = T 2 → g < 2 ^ T 3 → sum ≤ 648 * p → TM (I 140) T → (∀ p k, p < T 2 → k < T 3 → I 143 (6 * p + k) = nI (wth T p k)) → ∃ M, am_G am_prog (N + 30) (d + r + 2) 304 [.ref 135, .int (nI ppl), .int (nI p), .int (nI g), .int (nI sum)] (mkh X I J) = some (.null, mkh X M J) ∧ shF I M p ∧ shO I M p (T 2) (sum + bv (wth T) (T 3) ppl r p g) (asg (wth T) (T 3) ppl r p g) := by
  obtain ⟨h0, h1, h2, h3, h4, h5, h6⟩ := hw.1
  have h64 : 2 ^ T 3 ≤ 2 ^ 6 := Nat.pow_le_pow_right (by omega) h3
  have h65 : 2 ^ T 2 ≤ 2 ^ 6 := Nat.pow_le_pow_right (by omega) h2
  intro r
  induction r with
  | zero =>
    intro p d g sum I hp hg hs hT hW
    have eb : sum + bv (wth T) (T 3) ppl 0 p g = sum := rfl
    rw [eb, gX9_shares N (d + 0), sX9_shares_0 N (d + 0), tm2 hT, nc_eq (by omega)]
    by_cases c : I 135 29 < nI sum
    · obtain ⟨M, m1, m2, m3⟩ := c9_copies (N := N) (d := d + 0) (X := X) (I := I) (J := J) (Y := u2 I 135 29 (nI sum)) 6 0 (by omega) (u2 I 135 29 (nI sum)) (fun _ _ => rfl) (fun j hj => absurd hj (by omega))
      refine ⟨M, by rw [if_pos c]; exact m3 _ (by omega), ⟨fun a b1 b2 b3 => ?_, fun k hk => ?_, fun i hi => ?_⟩, Or.inl ⟨(nI_ltT (by omega)).mp c, ?_, fun i hi => ?_, fun i h1 h2 => absurd h2 (by omega)⟩⟩
      · rw [m1 a b3, u2_na _ _ _ _ _ b1]
      · rw [m1 135 (by omega), u2_nk _ _ _ _ _ hk]
      · rw [m1 144 (by omega), u2_na _ _ _ _ _ (by omega)]
      · rw [m1 135 (by omega), u2_at]
      · rw [m2 i (by omega), u2_na _ _ _ _ _ (by omega)]
    · exact ⟨I, by rw [if_neg c], shF_rfl I p, Or.inr ⟨fun h => c ((nI_ltT (by omega)).mpr h), rfl, fun _ _ => rfl⟩⟩
  | succ r ih =>
    intro p d g sum I hp hg hs hT hW
    have bl : ∀ x, bv (wth T) (T 3) ppl r (p + 1) x ≤ 648 * r := fun x => bv_le (P := T 2) (fun p s hp => wth_le hw hp s) r (p + 1) x (by omega)
    have wl : ∀ s, wth T p s ≤ 648 := fun s => wth_le hw (by omega) s
    have hV : ∀ s, sum + (wth T p s + bv (wth T) (T 3) ppl r (p + 1) (g ||| 2 ^ s)) < 2 ^ 31 := fun s => by
      have := bl (g ||| 2 ^ s); have := wl s; omega
    -- none, behind the loop
    have none' : ∀ K, shF I K p → ∃ M, shF (u2 K 144 p (-1)) M (p + 1) ∧ shO (u2 K 144 p (-1)) M (p + 1) (T 2) (sum + bv (wth T) (T 3) ppl r (p + 1) g) (asg (wth T) (T 3) ppl r (p + 1) g) ∧ ev (fun m => RX9_shares_134 N (d + (r + 1)) m X (nI ppl) (nI p) (nI g) (nI sum) K J) 1 (some (.null, mkh X M J)) := by
      intro K f
      obtain ⟨M, m1, m2, m3⟩ := ih (p + 1) d g sum (u2 K 144 p (-1)) (by omega) hg (by omega) (by rw [u2_na _ _ _ _ _ (by omega), f.1 140 (by omega) (by omega) (by omega)]; exact hT) (fun q k a b => by rw [u2_na _ _ _ _ _ (by omega), f.1 143 (by omega) (by omega) (by omega)]; exact hW q k a b)
      refine ⟨M, m2, m3, ev_0 (fun m => ?_)⟩
      rw [sX9_shares_134 N (d + (r + 1)) m, nc_in (by omega) (by omega), nI_clamp (by omega), nI_add, show d + (r + 1) + 1 = d + r + 2 by omega, m1, cV_some, kX9_shares_1 N (d + (r + 1)) m]
    have start : ∀ M R, ev (fun m => RX9_shares_60 N (d + (r + 1)) m X (nI ppl) (nI p) (nI g) (nI sum) (nI 0) I J) 20 R → R = some (.null, mkh X M J) → am_G am_prog (N + 30) (d + (r + 1) + 2) 304 [.ref 135, .int (nI ppl), .int (nI p), .int (nI g), .int (nI sum)] (mkh X I J) = some (.null, mkh X M J) := by
      intro M R e hR
      rw [gX9_shares N (d + (r + 1)), sX9_shares_0 N (d + (r + 1)), tm2 hT, nc_ne (by omega) (by omega) (by omega), ← hR]
      exact e (N + 29) (by omega)
    by_cases c : ppl.testBit p = true
    · have loop : ∀ k s, s + k = T 3 → ∀ K, shL (wth T) (T 3) ppl r p g sum (T 2) s I K → ∃ L, shL (wth T) (T 3) ppl r p g sum (T 2) (T 3) I L ∧ ∀ B R, ev (fun m => RX9_shares_134 N (d + (r + 1)) m X (nI ppl) (nI p) (nI g) (nI sum) L J) B R → ev (fun m => RX9_shares_60 N (d + (r + 1)) m X (nI ppl) (nI p) (nI g) (nI sum) (nI s) K J) (B + 1 + k) R := by
        intro k
        induction k with
        | zero =>
          intro s hs K hL
          have e : s = T 3 := by omega
          subst e
          refine ⟨K, hL, fun B R e => ev_s (fun m => ?_) e⟩
          rw [sX9_shares_60 N (d + (r + 1)) m, hL.1.1 140 (by omega) (by omega) (by omega), tm3 hT, nc_nlt (by omega) (by omega)]
        | succ k ih2 =>
          intro s hs2 K hL
          have k140 := hL.1.1 140 (by omega) (by omega) (by omega)
          by_cases cb : g.testBit s = true
          · obtain ⟨L, l1, l2⟩ := ih2 (s + 1) (by omega) K (shL_skip cb hL)
            refine ⟨L, l1, fun B R e => ev_le (ev_s (fun m => ?_) (l2 B R e)) (by omega)⟩
            rw [sX9_shares_60 N (d + (r + 1)) m, k140, tm3 hT, nc_lt (by omega) (by omega), c9_has (by omega) (by omega), cI_some, kX9_shares_0 N (d + (r + 1)) m, nc_10, if_pos c, c9_has (by omega) (by omega), cI_some, kX9_shares_2 N (d + (r + 1)) m, nc_10, if_pos cb, nI_add]
          · have cf : g.testBit s = false := by simpa using cb
            have w1 := wl s
            obtain ⟨M, m1, m2, m3⟩ := ih (p + 1) d (g ||| 2 ^ s) (sum + wth T p s) (u2 K 144 p (nI s)) (by omega) (or_p2 hg (by omega)) (by omega) (by rw [u2_na _ _ _ _ _ (by omega), k140]; exact hT) (fun q k a b => by rw [u2_na _ _ _ _ _ (by omega), hL.1.1 143 (by omega) (by omega) (by omega)]; exact hW q k a b)
            obtain ⟨L, l1, l2⟩ := ih2 (s + 1) (by omega) M (shL_step cf (by omega) (fun s _ => hV s) hL m2 m3)
            refine ⟨L, l1, fun B R e => ev_le (ev_s (fun m => ?_) (l2 B R e)) (by omega)⟩
            rw [sX9_shares_60 N (d + (r + 1)) m, k140, tm3 hT, nc_lt (by omega) (by omega), c9_has (by omega) (by omega), cI_some, kX9_shares_0 N (d + (r + 1)) m, nc_10, if_pos c, c9_has (by omega) (by omega), cI_some, kX9_shares_2 N (d + (r + 1)) m, nc_10, if_neg cb, pk_mul, nI_add, nI_add, nc_in (by omega) (by omega), nc_in (by omega) (by omega), nI_clamp (by omega), nI_clamp (by omega), no_shl (by omega), no_or, hL.1.1 143 (by omega) (by omega) (by omega), hW p s (by omega) (by omega), nI_add, show d + (r + 1) + 1 = d + r + 2 by omega, m1, cV_some, kX9_shares_3 N (d + (r + 1)) m, nI_add]
      obtain ⟨L, l1, l2⟩ := loop (T 3) 0 (by omega) I ⟨shF_rfl I p, Or.inl ⟨rfl, fun _ _ => rfl, fun s hs => absurd hs (by omega)⟩⟩
      obtain ⟨M, m1, m2, m3⟩ := none' L l1.1
      exact ⟨M, start M _ (ev_le (l2 _ _ m3) (by omega)) rfl, shF_set l1.1 m1, shL_end h3 (by omega) c (fun s _ => hV s) l1 m1 m2⟩
    · obtain ⟨M, m1, m2, m3⟩ := none' I (shF_rfl I p)
      have eV : bv (wth T) (T 3) ppl (r + 1) p g = bv (wth T) (T 3) ppl r (p + 1) g := if_neg c
      have ef : fbo (wth T) (T 3) ppl r p g = 4294967295 := if_neg (fun h => c h.1)
      refine ⟨M, start M _ (ev_le (ev_s (fun m => ?_) m3) (by omega)) rfl, shF_set (shF_rfl I p) m1, ?_⟩
      · rw [sX9_shares_60 N (d + (r + 1)) m, tm3 hT, c9_has (by omega) (by omega), cI_some, kX9_shares_0 N (d + (r + 1)) m, nc_10, if_neg c]
        split <;> rfl
      · unfold shO at m2
        rw [u2_na _ _ _ 135 _ (by omega), u2_na _ _ _ 145 _ (by omega)] at m2
        rw [eV]
        rcases m2 with ⟨o1, o2, o3, o4⟩ | ⟨o1, o2, o3⟩
        · refine Or.inl ⟨o1, o2, fun i hi => by rw [o3 i (by omega), u2_nk _ _ _ _ _ (by omega)], fun i h1 h2 => ?_⟩
          by_cases q : i = p
          · subst q
            rw [show asg (wth T) (T 3) ppl (r + 1) i g i = fbo (wth T) (T 3) ppl r i g from if_pos rfl, ef, o3 i (by omega), u2_at, no_m1]
          · rw [show asg (wth T) (T 3) ppl (r + 1) p g i = asg (wth T) (T 3) ppl r (p + 1) (nxg g (fbo (wth T) (T 3) ppl r p g)) i from if_neg (by omega), ef, show nxg g 4294967295 = g from if_pos rfl]
            exact o4 i (by omega) h2
        · exact Or.inr ⟨o1, o2, o3⟩

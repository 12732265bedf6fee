theorem c_town (F : Nat) (hF : 4000 ≤ F) {S : ST} (h : Inv S) : Ok S (fun L => fX9_town F L 0) (fun L => fX10_town F L 209) := by
  obtain ⟨Y, n, c, on, ot, wn, μ, k, ms, T, tx, f, mw, mn, kp, im, ik, ims, htw, hwa, hk, hm, htr⟩ := h
  obtain ⟨kt, kn, kx, kf, ki⟩ := hk
  obtain ⟨w1, w2, ⟨wT, wX⟩, w4, w5⟩ := hwa
  have kr := k_read F hF kx wT wX
  have pb := pRun_b (T := T) (tx := tx) 61 0 0 d0 (Nat.zero_le _)
  have pw := pRun_DW (T := T) (tx := tx) 61 0 0 d0 DW_d0 (fun _ => ⟨rfl, rfl⟩)
  cases hq : pRun T tx 61 0 0 d0 with
  | inl v =>
    rw [hq] at kr
    obtain ⟨S1, a, b, c1⟩ := kr
    have hv := pb.1 v hq
    obtain ⟨mt1, mn1, mx1, mf1, mi1⟩ := M_fr hm b (by omega)
    have mr := m_read F hF (S := S1) (f := S1.2.1 209) wT wX ⟨mx1.1, mx1.2⟩
    rw [hq, jS_self] at mr
    obtain ⟨S2, g, r1, r2, r3, r4, r5⟩ := mr
    have f2 : Fr 209 219 S1 (jS S2 g) := r2.fr
    refine ⟨(-10) - nI v, S1, jS S2 g, ?_, ?_, ?_⟩
    · show fX9_town F (hp S) 0 = _
      exact k_town_no F (neg_v (by omega)) a
    · show fX10_town F (hp S1) 209 = _
      rw [m_town F r1, r3, if_neg (by decide), r4]
    · have h9 := htw.2.1
      have h6 := htw.2.2.1
      obtain ⟨t1, t2, t3, t4, t5, t6⟩ := mt1
      refine ⟨Y, n, c, on, ot, wn, μ, k, ms, T, tx, f, mw, mn, kp, im, ik, ims, htw, ⟨w1, w2, ⟨wT, wX⟩, w4, w5⟩, K_fr ⟨kt.fr b (by omega), kn.fr b (by omega), c1, kf.fr b (by omega), ki.fr b (by omega) (by omega)⟩ f2 (by omega), ⟨⟨?_, ?_, ?_, fun s hs => ?_, fun s hs => ?_, fun p hp' => ?_⟩, mn1.fr f2 (by omega), ⟨?_, fun j hj => ?_⟩, ⟨?_, fun j hj => ?_, fun j hj => ?_⟩, mi1.fr f2 (by omega)⟩, ?_⟩
      · rw [jS_1, r2.2 211 0 (by rw [lm_211]; omega)]; exact t1
      · rw [jS_1, r2.2 212 0 (by rw [lm_212]; omega)]; exact t2
      · rw [jS_1, r2.2 216 0 (by rw [lm_216]; omega)]; exact t3
      · rw [jS_1, r2.2 213 s (by rw [lm_213]; omega)]; exact t4 s hs
      · rw [jS_1, r2.2 214 s (by rw [lm_214]; omega)]; exact t5 s hs
      · rw [jS_1, r2.2 218 p (by rw [lm_218]; omega)]; exact t6 p hp'
      · rw [jS_f, r5 1 (by omega)]; exact mx1.1
      · rw [jS_1, r2.2 210 j (by omega)]; exact mx1.2 j hj
      · rw [jS_f, r5 24 (by omega)]; exact mf1.1
      · rw [(f2 225 (by omega)).1]; exact mf1.2.1 j hj
      · rw [(f2 226 (by omega)).1]; exact mf1.2.2 j hj
      · show S2.2.2.1 0 = S2.2.2.1 209
        rw [r2.1, (b 0 (by omega)).2.2.1, (b 209 (by omega)).2.2.1]
        exact htr
  | inr x =>
    obtain ⟨items, d⟩ := x
    rw [hq] at kr
    obtain ⟨S1, a, b, c1, dk⟩ := kr
    have a : fX6_readInto F (hp S) 1 3 = some (nI items, hp S1) := a
    have dk : DK S1 d := dk
    have hi := pb.2 items d hq
    have dw := pw items d hq
    have h9 := dw.2.1
    have h6 := dw.2.2.1
    obtain ⟨S2, e2, fr2, z2, kt2, o2, h2⟩ := k_become F dk dw
    obtain ⟨S3, e3, fr3, z3, n3, t3, s3, p3⟩ := k_begin F hF (S := S2)
    have e4 := k_town_ok F (show (0 : Int32) ≤ nI items from nI_le (a := 0) (by omega) (by omega)) a e2 e3
    have f34 : Fr 0 209 S3 (stJ (stJ (stJ S3 0 5 0) 205 2 0) 1 2 0) := ((Fr.stJ (by omega) (by omega)).tr (Fr.stJ (by omega) (by omega))).tr (Fr.stJ (by omega) (by omega))
    have f4 : Fr 0 209 S (stJ (stJ (stJ S3 0 5 0) 205 2 0) 1 2 0) := (((b.mono (by omega) (by omega)).tr (fr2.mono (by omega) (by omega))).tr (fr3.mono (by omega) (by omega))).tr f34
    have kt4 : KT (stJ (stJ (stJ S3 0 5 0) 205 2 0) 1 2 0) (d 0 0) (d 1 0) (d 2 0) (d 3) (d 4) (d 7) := (((kt2.fr fr3 (by omega)).fr (Fr.stJ (lo := 0) (hi := 1) (by omega) (by omega)) (by omega)).fr (Fr.stJ (lo := 205) (hi := 206) (by omega) (by omega)) (by omega)).fr (Fr.stJ (lo := 1) (hi := 2) (by omega) (by omega)) (by omega)
    have v0 : (stJ (stJ (stJ S3 0 5 0) 205 2 0) 1 2 0).2.1 0 5 = 0 := by rw [stJ_n _ _ (by decide), stJ_n _ _ (by decide), stJ_s]
    have v205 : (stJ (stJ (stJ S3 0 5 0) 205 2 0) 1 2 0).2.1 205 2 = 0 := by rw [stJ_n _ _ (by decide), stJ_s]
    have v1 : (stJ (stJ (stJ S3 0 5 0) 205 2 0) 1 2 0).2.1 1 2 = 0 := stJ_s _ _ _ _
    have v15 : (stJ (stJ (stJ S3 0 5 0) 205 2 0) 1 2 0).2.1 15 2 = 0 := by rw [stJ_n _ _ (by decide), stJ_n _ _ (by decide), stJ_n _ _ (by decide)]; exact n3
    have v16 : (stJ (stJ (stJ S3 0 5 0) 205 2 0) 1 2 0).2.1 16 4 = 0 := by rw [stJ_n _ _ (by decide), stJ_n _ _ (by decide), stJ_n _ _ (by decide)]; exact t3
    have va : (stJ (stJ (stJ S3 0 5 0) 205 2 0) 1 2 0).1 = S3.1 := rfl
    have vr : (stJ (stJ (stJ S3 0 5 0) 205 2 0) 1 2 0).2.2 = S1.2.2 := by rw [← z2, ← z3]; rfl
    generalize stJ (stJ (stJ S3 0 5 0) 205 2 0) 1 2 0 = S4 at *
    obtain ⟨mt4, mn4, mx4, mf4, mi4⟩ := M_fr hm f4 (by omega)
    have mr := m_read F hF (S := S4) (f := S4.2.1 209) wT wX ⟨mx4.1, mx4.2⟩
    rw [hq, jS_self] at mr
    obtain ⟨S5, g, r1, r2, r3, r4, r5, r6⟩ := mr
    have r4 : g 15 = nI items := r4
    have r5 : DM S5 d := r5
    obtain ⟨S6, e6, f6, z6, mt6, mm6, k6, i6, x6, y6⟩ := m_settle F hF (g := g) r5 dw
    have f46 : Fr 209 224 S4 S6 := ((r2.fr (g := g)).mono (by omega) (by omega)).tr f6
    obtain ⟨-, -, -, pt, nr, -⟩ := kn
    obtain ⟨-, y2, y3, ⟨q1, y4⟩, ⟨q2, y5⟩, -, -⟩ := ki
    have row : ∀ q, 9 ≤ q → S4.2.2.2 q = S.2.2.2 q := fun q hq => by rw [vr]; exact (b q (by omega)).2.2.2
    have nrow : ∀ {a : Nat} {pt : Nat → Nat}, 9 ≤ a → NowR S a pt → NowR S4 a pt := fun ha hr => ⟨hr.1, fun i hi => by rw [row _ (by omega)]; exact hr.2 i hi⟩
    refine ⟨nI items, S4, S6, e4, ?_, ?_⟩
    · show fX10_town F (hp S4) 209 = _
      rw [m_town F r1, r3, if_pos rfl, r5.1, r5.2.1, r5.2.2.1, e6, r4]
    · refine ⟨d 0 0, d 1 0, d 2 0, d 3, d 4, d 7, mu0 d, 0, ms, 0, tx, 0, mw, mn, fun _ => false, im, ik, ims, ⟨dw.1, h9, h6, fun s hs => (dw.2.2.2.1 s hs).1, fun p hp' => (dw.2.2.2.2 p hp').2⟩, ⟨⟨fun s hs => ⟨(dw.2.2.2.1 s hs).2, Nat.zero_le _, Nat.zero_le _⟩, fun p hp' => (dw.2.2.2.2 p hp').1, Nat.zero_le _⟩, fun i hi => absurd hi (Nat.not_lt_zero _), ⟨Nat.zero_le _, fun i hi => absurd hi (Nat.not_lt_zero _)⟩, ⟨Nat.zero_le _, fun i hi => absurd hi (Nat.not_lt_zero _)⟩, fun i hi h => by cases h⟩, K_fr ⟨kt4, ⟨⟨fun s hs => ?_, fun s hs => ?_, fun s hs => ?_, fun p hp' => ?_, v16⟩, v15, Nat.zero_le _, pt, nrow (by omega) nr, fun i hi => absurd hi (Nat.not_lt_zero _)⟩, ⟨v1, fun i hi => absurd hi (Nat.not_lt_zero _)⟩, ⟨v205, fun i hi => absurd hi (Nat.not_lt_zero _), fun i hi => absurd hi (Nat.not_lt_zero _)⟩, ⟨v0.trans bs2_0, by rw [row _ (by omega)]; exact y2, by rw [row _ (by omega)]; exact y3, ⟨q1, nrow (by omega) y4⟩, ⟨q2, nrow (by omega) y5⟩, fun h => (by cases h), fun h => (by cases h)⟩⟩ f46 (by omega), ⟨mt6, ⟨mm6, k6, Nat.zero_le _, fun i hi => absurd hi (Nat.not_lt_zero _)⟩, ⟨x6, fun i hi => absurd hi (Nat.not_lt_zero _)⟩, ⟨y6, fun i hi => absurd hi (Nat.not_lt_zero _), fun i hi => absurd hi (Nat.not_lt_zero _)⟩, ⟨fun i hi => by rw [i6 i hi]; rfl, fun i hi h => by cases h⟩⟩, ?_⟩
      · show S4.1 17 s = nI (d 5 s)
        rw [va, (s3 s (by omega)).1, o2 s (by omega)]; exact (dk.2.2.2.1 s hs).2.2
      · show S4.1 18 s = nI 0
        rw [va, (s3 s (by omega)).2.1]; rfl
      · show S4.1 19 s = nI 0
        rw [va, (s3 s (by omega)).2.2]; rfl
      · show S4.1 20 p = nI (d 6 p)
        rw [va, p3 p (by omega), h2 p (by omega)]; exact (dk.2.2.2.2 p hp').1
      · rw [z6, r2.1, vr, (b 0 (by omega)).2.2.1, (b 209 (by omega)).2.2.1]
        exact htr

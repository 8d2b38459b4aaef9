theorem ct_hasI {d : Nat} (h : zH) {x : Int32} {y : Nat} (hy : y < 32) : zCall (d + 1) 150 [.int x, .int (nI y)] h (some (.int (nI (b2n (zhb x y)))), h) := by
  refine zG_m (t := tX9_has) (ls0 := [.int x, .int (nI y)]) rfl rfl (zdnI (zdnI zdn0)) rfl ?_
  refine zG_s rfl rfl ?_
  refine zG_s rfl rfl ?_
  refine zG_s rfl rfl ?_
  refine zG_s rfl rfl ?_
  refine zG_s rfl rfl ?_
  show zGo d _ 5 _ [.int ((x >>> (nI y &&& 31)) &&& nI 1)] _ _
  rw [zhas_i x y hy]
  first | refine zN_ifb rfl (fun c1 => ?_) (fun c2 => ?_) | refine zN_eq0 rfl (by omega) (fun c1 => ?_) (fun c2 => ?_)
  · skip
    refine zG_s rfl rfl ?_
    -- leaf 1
    exact zG_ret rfl rfl (by rw [c1]; rfl)
  · skip
    refine zG_s rfl rfl ?_
    refine zG_s rfl rfl ?_
    -- leaf 2
    exact zG_ret rfl rfl (by rw [c2]; rfl)
theorem ct_becomeFacesBad {d : Nat} {h : zH} {o q st ln i n : Nat} {f : Nat → Int32} (ho2 : 2 ≤ o) (hC : zCa h o) (hS : zSh h q st ln f) (ha : zcN o q) (hl : ln ≤ 40) (hn : n ≤ 8) (hin : i + n ≤ ln) (hbad : zAl (fun k => zin (f (i + k) - nI 1) 15) n = false) : zCallP (d + 2) 47 [.ref o, .ref q, .int (nI i), .int (nI n)] h (zRV (.int (nI 0)) (fun h1 => zFr (zcS o) h h1 ∧ zCa h1 o)) := by
  obtain ⟨ct, pl, bs, ch, hC⟩ := hC
  have haq : ¬ zcS o q ∧ ¬ zcS o (q + 1) := by unfold zcN at ha; unfold zcS; omega
  generalize hQ : (zRV (.int (nI 0)) (fun h1 => zFr (zcS o) h h1 ∧ zCa h1 o)) = Q
  refine zG_mP (t := tX5_becomeFaces) (ls0 := [.ref o, .ref q, .int (nI i), .int (nI n), .null, .null, .null]) rfl rfl (zdnR (zdnR (zdnI (zdnI zdn0)))) rfl ?_
  refine zG_s rfl rfl ?_
  refine zN_st4 rfl (fun _ _ _ => rfl) rfl ?_
  have main3 : ∀ s, s ≤ 256 → ∀ (h1 : zH) (ct : Nat → Int32), zFr (zcS o) h h1 → zC0 h1 o ct pl bs ch → zGoP (d + 1) tX5_becomeFaces 3 [.ref o, .ref q, .int (nI i), .int (nI n), .int (nI s), .null, .null] [] h1 Q := by
    refine zdown (256) ?_ (fun s hp3 ih3 => ?_)
    · skip
      intro h1 ct hF hC
      refine zG_s rfl rfl ?_
      refine zG_s rfl rfl ?_
      refine zN_ige rfl (by omega) (by omega) (fun c1 => ?_) (fun c2 => absurd c2 (by omega))
      refine zG_s rfl rfl ?_
      refine zN_st4 rfl (fun _ _ _ => rfl) rfl ?_
      have main28 : ∀ j, j ≤ n → ∀ (h1 : zH) (ct : Nat → Int32) (x5 x6 : Value), zok1 [.ref o, .ref q, .int (nI i), .int (nI n), .int (nI j), x5, x6] 6 = true → zFr (zcS o) h h1 → zC0 h1 o ct pl bs ch → zAl (fun k => zin (f (i + k) - nI 1) 15) j = true → zGoP (d + 1) tX5_becomeFaces 28 [.ref o, .ref q, .int (nI i), .int (nI n), .int (nI j), x5, x6] [] h1 Q := by
        refine zdown (n) ?_ (fun j hp28 ih28 => ?_)
        · skip
          intro h1 ct x5 x6 e6 hF hC hgo
          refine zG_s rfl rfl ?_
          refine zG_s rfl rfl ?_
          refine zN_ige rfl (by omega) (by omega) (fun c3 => ?_) (fun c4 => absurd c4 (by omega))
          refine zG_s rfl rfl ?_
          -- leaf 1
          rw [hgo] at hbad
          cases hbad
        · skip
          intro h1 ct x5 x6 e6 hF hC hgo
          refine zG_s rfl rfl ?_
          refine zG_s rfl rfl ?_
          refine zN_ige rfl (by omega) (by omega) (fun c5 => absurd c5 (by omega)) (fun c6 => ?_)
          refine zG_s rfl rfl ?_
          refine zN_get rfl (hF.eq haq.1 hS.1) rfl ?_
          refine zG_s rfl rfl ?_
          refine zG_s rfl rfl ?_
          refine zN_add rfl ?_
          refine zN_ald rfl (hF.eq haq.2 hS.2) (by omega) (by omega) rfl ?_
          refine zN_st5 rfl (fun _ _ _ => rfl) rfl ?_
          refine zG_s rfl rfl ?_
          refine zG_s rfl rfl ?_
          refine zN_if2 rfl (fun c7 => ?_) (fun c8 => ?_)
          · skip
            refine zG_s rfl rfl ?_
            -- leaf 2
            rw [← hQ]
            exact zG_ret rfl rfl ⟨rfl, hF, ct, pl, bs, ch, hC⟩
          · skip
            refine zG_s rfl rfl ?_
            refine zG_s rfl rfl ?_
            refine zN_if2 rfl (fun c9 => ?_) (fun c10 => ?_)
            · skip
              obtain ⟨F, hF9, hF0, eF⟩ := zfct c8 c9
              rw [eF]
              refine zG_s rfl rfl ?_
              refine zN_st6 rfl (fun _ _ _ => rfl) rfl ?_
              have main63 : ∀ s, s ≤ F + 1 → ∀ (h1 : zH) (ct : Nat → Int32), 1 ≤ s → zFr (zcS o) h h1 → zC0 h1 o ct pl bs ch → zGoP (d + 1) tX5_becomeFaces 63 [.ref o, .ref q, .int (nI i), .int (nI n), .int (nI j), .int (nI F), .int (nI s)] [] h1 Q := by
                refine zdown (F + 1) ?_ (fun s hp63 ih63 => ?_)
                · skip
                  intro h1 ct hs1 hF hC
                  refine zG_s rfl rfl ?_
                  refine zG_s rfl rfl ?_
                  refine zN_igt rfl (by omega) (by omega) (fun c11 => ?_) (fun c12 => absurd c12 (by omega))
                  refine zN_inc4 rfl rfl ?_
                  refine zG_s rfl rfl ?_
                  -- leaf 3
                  exact ih28 _ _ _ _ rfl hF hC (by rw [zAl, hgo, Bool.true_and]; exact zf15.mpr ⟨F, hF0, hF9, eF⟩)
                · skip
                  intro h1 ct hs1 hF hC
                  have b5 : zan s F < 2 ^ 31 := zan_lt _ (by omega)
                  refine zG_s rfl rfl ?_
                  refine zG_s rfl rfl ?_
                  refine zN_igt rfl (by omega) (by omega) (fun c13 => absurd c13 (by omega)) (fun c14 => ?_)
                  refine zG_s rfl rfl ?_
                  refine zG_s rfl rfl ?_
                  refine zG_s rfl rfl ?_
                  refine zN_not rfl ?_
                  refine zN_andn rfl ?_
                  first | refine zN_ifnb rfl (fun c15 => ?_) (fun c16 => ?_) | refine zN_ne0 rfl (by omega) (fun c15 => ?_) (fun c16 => ?_)
                  · skip
                    refine zN_inc6 rfl rfl ?_
                    refine zG_s rfl rfl ?_
                    -- leaf 4
                    exact ih63 _ _ (by omega) hF hC
                  · skip
                    refine zG_s rfl rfl ?_
                    refine zN_get rfl hC.1 rfl ?_
                    refine zG_s rfl rfl ?_
                    refine zG_s rfl rfl ?_
                    refine zG_cS1 rfl rfl (ct_bitCount (by omega)) ?_
                    refine zN_ast rfl hC.2.1 (by omega) (by omega) (zble_of ho2) ?_
                    refine zN_inc6 rfl rfl ?_
                    refine zG_s rfl rfl ?_
                    -- leaf 5
                    exact ih63 _ _ (by omega) (hF.set (zcS_in (k := 1) (by omega))) hC.p_ct
              exact main63 1 (by omega) _ _ (by omega) hF hC
            · skip
              refine zG_s rfl rfl ?_
              -- leaf 6
              rw [← hQ]
              exact zG_ret rfl rfl ⟨rfl, hF, ct, pl, bs, ch, hC⟩
      exact main28 0 (by omega) _ _ _ _ rfl hF hC rfl
    · skip
      intro h1 ct hF hC
      refine zG_s rfl rfl ?_
      refine zG_s rfl rfl ?_
      refine zN_ige rfl (by omega) (by omega) (fun c17 => absurd c17 (by omega)) (fun c18 => ?_)
      refine zG_s rfl rfl ?_
      refine zN_get rfl hC.1 rfl ?_
      refine zG_s rfl rfl ?_
      refine zG_s rfl rfl ?_
      refine zN_ast rfl hC.2.1 (by omega) (by omega) (zble_of ho2) ?_
      refine zN_inc4 rfl rfl ?_
      refine zG_s rfl rfl ?_
      -- leaf 7
      exact ih3 _ _ (hF.set (zcS_in (k := 1) (by omega))) hC.p_ct
  exact main3 0 (by omega) h ct zFr.rf hC
theorem ct_becomeFacesX {d : Nat} {h : zH} {o q st ln i n : Nat} {f : Nat → Int32} (ho2 : 2 ≤ o) (hC : zCa h o) (hS : zSh h q st ln f) (ha : zcN o q) (hl : ln ≤ 40) (hn : n ≤ 8) (hin : i + n ≤ ln) : zCallP (d + 2) 47 [.ref o, .ref q, .int (nI i), .int (nI n)] h (zRV (.int (nI (b2n (zAl (fun k => zin (f (i + k) - nI 1) 15) n)))) (fun h1 => zFr (zcS o) h h1 ∧ zCa h1 o ∧ (zAl (fun k => zin (f (i + k) - nI 1) 15) n = true → zCS h1 o (zFcC (fun k => (f (i + k)).toNatClampNeg) n)))) := by
  cases e : zAl (fun k => zin (f (i + k) - nI 1) 15) n with
  | false => exact (ct_becomeFacesBad ho2 hC hS ha hl hn hin e).vm rfl (fun h1 hh => ⟨hh.1, hh.2, fun g => by cases g⟩)
  | true => exact (ct_becomeFaces ho2 hC hS ha hl hn hin (zfF e)).vm rfl (fun h1 hh => ⟨hh.1, hh.2.ca, fun _ => hh.2⟩)
theorem co_faces {d : Nat} {h : zH} {s : zST} {a b c e : Int32} (hI : zCI h s) (hW : zWT s) : zCallP (d + 5) 124 [.ref 2, .int a, .int b, .int c, .int e] h (zOut h (zo_faces s a b c e)) := by
  have hF : zFr zcR h h := zFr.rf
  refine zG_mP (t := tX9_faces) (ls0 := [.ref 2, .int a, .int b, .int c, .int e, .null]) rfl rfl (zdnR (zdnI (zdnI (zdnI (zdnI zdn0))))) rfl ?_
  refine zG_s rfl rfl ?_
  refine zG_cS1 rfl rfl ct_isSheet ?_
  refine zN_ifb rfl (fun c1 => ?_) (fun c2 => ?_)
  · skip
    refine zG_s rfl rfl ?_
    -- leaf 1
    exact zG_ret rfl rfl (zfin (by rw [zo_faces, zb_no c1]) hF hI)
  · skip
    obtain ⟨i, hi, rfl⟩ := zin_of c2 (by omega)
    refine zG_s rfl rfl ?_
    refine zG_s rfl rfl ?_
    refine zN_if2 rfl (fun c3 => ?_) (fun c4 => ?_)
    · skip
      have c5 := zraw1_lt (n := 9) c3
      refine zG_s rfl rfl ?_
      -- leaf 2
      exact zG_ret rfl rfl (zfin (by rw [zo_faces, zb_i hi (by omega), zb1_no c5]) hF hI)
    · skip
      refine zG_s rfl rfl ?_
      refine zG_s rfl rfl ?_
      refine zN_if2 rfl (fun c6 => ?_) (fun c7 => ?_)
      · skip
        have c8 := zraw1_gt (n := 8) (by decide) c6
        refine zG_s rfl rfl ?_
        -- leaf 3
        exact zG_ret rfl rfl (zfin (by rw [zo_faces, zb_i hi (by omega), zb1_no c8]) hF hI)
      · skip
        have c9 := zraw1_in (n := 8) (by decide) c4 c7
        obtain ⟨n, hn, hn0, rfl⟩ := c9
        refine zG_s rfl rfl ?_
        refine zG_cS1 rfl rfl ct_isSpace ?_
        refine zN_ifnb rfl (fun c10 => ?_) (fun c11 => ?_)
        · skip
          obtain ⟨j, hj, rfl⟩ := zin_of c10 (by omega)
          obtain ⟨f, hS, hf⟩ := hI.sh i hi
          obtain ⟨hst, hln⟩ := hW.2.2.2.1 i hi
          refine zG_s rfl rfl ?_
          refine zN_get rfl hI.ob rfl ?_
          refine zG_s rfl rfl ?_
          refine zN_qa (tt := 1) rfl hI.ah (by omega) (by omega) ?_
          refine zN_sta5 rfl (fun _ _ _ => rfl) rfl ?_
          refine zG_s rfl rfl ?_
          refine zN_get rfl hS.1 rfl ?_
          refine zG_s rfl rfl ?_
          refine zN_sne1 rfl (by omega) (fun c12 => ?_) (fun c13 => ?_)
          · skip
            refine zG_s rfl rfl ?_
            refine zN_get rfl hS.1 rfl ?_
            refine zG_s rfl rfl ?_
            refine zN_seqk (k := 1) rfl (by omega) (by omega) (fun c14 => ?_) (fun c15 => ?_)
            · skip
              refine zG_s rfl rfl ?_
              refine zG_s rfl rfl ?_
              refine zG_s rfl rfl ?_
              refine zG_cV1 rfl rfl hS.1 rfl rfl (ct_isOutside hS.1 hln) ?_
              first | refine zN_ifb rfl (fun c16 => ?_) (fun c17 => ?_) | refine zN_eq0 rfl (by omega) (fun c16 => ?_) (fun c17 => ?_)
              · skip
                have hin : zInr (s.2.2.2.2.1 i).2.1 b (nI n) = true := by simpa using c16
                obtain ⟨p, hp, ep⟩ := zInr_p hln hin (by omega)
                have hb9 : b.toNatClampNeg = p := by rw [ep, nI_cl (by omega)]
                refine zG_s rfl rfl ?_
                have hC2 : zFcC (fun k => (f (p + k)).toNatClampNeg) n = zFcC (fun k => ((s.2.2.2.2.1 i).2.2 (p + k)).toNatClampNeg) n := by
                  funext t
                  unfold zFcC
                  rw [zFc1_cg (G := fun k => ((s.2.2.2.2.1 i).2.2 (p + k)).toNatClampNeg) (fun j hj => by
                    show (f (p + j)).toNatClampNeg = ((s.2.2.2.2.1 i).2.2 (p + j)).toNatClampNeg
                    rw [hf (p + j) (by omega)])]
                refine zN_get rfl hI.ob rfl ?_
                refine zG_s rfl rfl ?_
                refine zG_s rfl rfl ?_
                refine zG_s rfl rfl ?_
                show zGoP _ _ _ _ [_, .int b, _, _] _ _
                rw [show (.int b : Value) = .int (nI p) from by rw [ep]]
                obtain ⟨ct0, pl0, bs0, ch0, hC0⟩ := hI.se
                refine zG_cQV rfl rfl hC0.1 rfl rfl (ct_becomeFacesX (by omega) hI.se hS (by unfold zcN; omega) hln (by omega) hp) (fun h1 hB => ?_)
                have hI := hI.u_se hB.2.1 hB.1
                have hF := hF.tr (hB.1.mono zcR_c)
                have hcg : zAl (fun k => zin (f (p + k) - nI 1) 15) n = zAl (fun k => zin ((s.2.2.2.2.1 i).2.2 (p + k) - nI 1) 15) n := zAl_cong (fun k hk => by
                  show zin (f (p + k) - nI 1) 15 = zin ((s.2.2.2.2.1 i).2.2 (p + k) - nI 1) 15
                  rw [hf (p + k) (by omega)])
                first | refine zN_ifnb rfl (fun c18 => ?_) (fun c19 => ?_) | refine zN_ne0 rfl (by omega) (fun c18 => ?_) (fun c19 => ?_)
                · skip
                  refine zG_s rfl rfl ?_
                  refine zG_s rfl rfl ?_
                  refine zG_cQV rfl rfl hI.ob rfl rfl (ct_settleSets hI hj (hB.2.2 c18) (fun t _ => zFcC_le)) (fun h2 hB2 => ?_)
                  have hF := hF.tr hB2.1
                  have hI := hB2.2
                  -- leaf 4
                  exact zG_ret rfl rfl (zfin (by rw [zo_faces, zb_i hi (by omega), zb1_i hn hn0 (by decide), zb_i hj (by omega), if_neg c12, if_neg (by omega), if_neg (by rw [hin]; simp), hb9, if_pos (by rw [← hcg]; exact c18), hC2]) hF hI)
                · skip
                  refine zG_s rfl rfl ?_
                  -- leaf 5
                  exact zG_ret rfl rfl (zfin (by rw [zo_faces, zb_i hi (by omega), zb1_i hn hn0 (by decide), zb_i hj (by omega), if_neg c12, if_neg (by omega), if_neg (by rw [hin]; simp), hb9, if_neg (by rw [← hcg, c19]; simp)]) hF hI)
              · skip
                refine zG_s rfl rfl ?_
                -- leaf 6
                have hin : zInr (s.2.2.2.2.1 i).2.1 b (nI n) = false := by simpa using c17
                exact zG_ret rfl rfl (zfin (by rw [zo_faces, zb_i hi (by omega), zb1_i hn hn0 (by decide), zb_i hj (by omega), if_neg c12, if_neg (by omega), if_pos hin]) hF hI)
            · skip
              refine zG_s rfl rfl ?_
              -- leaf 7
              exact zG_ret rfl rfl (zfin (by rw [zo_faces, zb_i hi (by omega), zb1_i hn hn0 (by decide), zb_i hj (by omega), if_neg c12, if_pos c15]) hF hI)
          · skip
            refine zG_s rfl rfl ?_
            -- leaf 8
            exact zG_ret rfl rfl (zfin (by rw [zo_faces, zb_i hi (by omega), zb1_i hn hn0 (by decide), zb_i hj (by omega), if_pos c13]) hF hI)
        · skip
          refine zG_s rfl rfl ?_
          -- leaf 9
          exact zG_ret rfl rfl (zfin (by rw [zo_faces, zb_i hi (by omega), zb1_i hn hn0 (by decide), zb_no c11]) hF hI)

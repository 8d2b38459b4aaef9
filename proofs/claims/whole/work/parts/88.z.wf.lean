/-! each call leaves a state as it must be -/
theorem zb_w0 {s : zST} {o : Option Nat} {k : Nat → Int32 × zST} (hW : zWT s) (H : ∀ i, zWT (k i).2) : zWT (zb s o k).2 := by
  cases o with
  | none => exact hW
  | some i => exact H i
theorem zb_w {s : zST} {x : Int32} {n : Nat} {k : Nat → Int32 × zST} (hW : zWT s) (hn : n < 2 ^ 31) (H : ∀ i, i < n → zWT (k i).2) : zWT (zb s (zn x n) k).2 := by
  cases e : zin x n with
  | false => rw [zb_no e]; exact hW
  | true =>
    obtain ⟨i, hi, rfl⟩ := zin_of e hn
    rw [zb_i hi hn]
    exact H i hi
theorem zb_w1 {s : zST} {x : Int32} {n : Nat} {k : Nat → Int32 × zST} (hW : zWT s) (hn : n < 2 ^ 31) (H : ∀ i, i < n → zWT (k i).2) : zWT (zb1 s x n k).2 := zb_w hW hn (fun i hi => by
  show zWT (if i = 0 then (-1, s) else k i).2
  split
  · exact hW
  · exact H i hi)
section ZWF
variable {s : zST} {a b c e g : Int32}
theorem w_points (hW : zWT s) : zWT (zo_points s a b).2 := zb_w hW (by decide) fun i hi => zb_w hW (by decide) fun m hm => hW.sp (zPre_disc (by omega))
theorem w_nest (hW : zWT s) : zWT (zo_nest s a b c).2 := zb_w hW (by decide) fun i hi => by
  have h8 := (hW.1 i hi).1
  exact zb_w hW (by omega) fun x hx => zb_w hW (by omega) fun y hy => hW.sp ((hW.1 i hi).nst hy)
theorem w_reduce (hW : zWT s) : zWT (zo_reduce s a b c e).2 := zb_w hW (by decide) fun i hi => zb_w hW (by decide) fun k hk => zb_w hW (by decide) fun o ho => zb_w hW (by decide) fun j hj => hW.sp ((hW.1 i hi).part (zLeft_lt (hW.1 i hi).1))
theorem w_part (hW : zWT s) : zWT (zo_part s a b c).2 := zb_w hW (by decide) fun i hi => by
  have h8 := (hW.1 i hi).1
  have hp := zpow_le h8
  exact zb_w hW (by omega) fun p hp => zb_w hW (by decide) fun j hj => hW.sp ((hW.1 i hi).part hp)
theorem w_byCode (hW : zWT s) : zWT (zo_byCode s a b c).2 := zb_w hW (by decide) fun i hi => zb_w hW (by decide) fun n hn => zb_w0 hW fun w => by
  split
  · next h => exact hW.sp (zPre.dl hn h)
  · exact hW
theorem w_stl (hW : zWT s) {C : Nat → Nat} {j : Nat} : zWT (zStl s C j).2 := by
  unfold zStl
  split
  · exact hW
  · exact hW.sp (zPre.sub (zFk_le C 8))
theorem w_divide (hW : zWT s) : zWT (zo_divide s a b).2 := zb_w0 hW fun i => zb_w0 hW fun j => w_stl hW
theorem w_faces (hW : zWT s) : zWT (zo_faces s a b c e).2 := zb_w0 hW fun i => zb_w1 hW (by decide) fun n _ => zb_w0 hW fun j => by
  split
  · exact hW
  · split
    · exact hW
    · split
      · exact hW
      · split
        · exact w_stl hW
        · exact hW
theorem w_made0 (hW : zWT s) {w i k j : Nat} (hi : i < 6) (hk : k < 6) : zWT (zMade s w i k j).2 := by
  unfold zMade
  split
  · exact hW
  · exact hW.sp (zPre.mk (hW.1 i hi) (hW.1 k hk) (by omega))
theorem w_made (hW : zWT s) : zWT (zo_made s a b c e).2 := zb_w0 hW fun w => zb_w hW (by decide) fun i hi => zb_w0 hW fun j => by
  split
  · exact zb_w hW (by decide) fun k hk => w_made0 hW hi hk
  · exact w_made0 hW hi hi
theorem w_feed (hW : zWT s) {x : Int64} : zWT (zo_feed s x b).2 := zb_w1 hW (by decide) fun n hn => by
  split
  · exact hW
  · refine hW.tp (by omega) (fun i hi => ?_)
    split
    · next h => exact hW.2.2.1.2 i h
    · exact zEb_lt _ _
theorem w_space (hW : zWT s) : zWT (zo_space s a).2 := zb_w0 hW fun i => by
  have h0 : zWT (zsTp s 0 s.2.2.2.1.2) := hW.tp (by omega) (fun i hi => absurd hi (by omega))
  split
  · next h => exact h0.sp (zRead_pre h)
  · exact h0
theorem w_seed (hW : zWT s) : zWT (zo_seed s a).2 := hW
theorem w_draw (hW : zWT s) : zWT (zo_draw s a b c).2 := zb_w0 hW fun i => zb_w hW (by decide) fun n hn => zb_w0 hW fun v => (hW.sp (zDr2_pre (zPre_disc (by omega)) n)).z
theorem w_sheet (hW : zWT s) : zWT (zo_sheet s a b c).2 := zb_w hW (by decide) fun i hi => by
  split
  · exact hW.sh (by omega) (hW.2.2.2.1 i hi).2
  · refine zb_w hW (by decide) fun st hst => ?_
    split
    · exact hW
    · next h1 =>
      split
      · exact hW
      · next h2 =>
        obtain ⟨j, hj, rfl⟩ := nI_of h2
        refine hW.sh (by omega) ?_
        rw [nI_cl hj]
        refine Classical.byContradiction (fun q => h1 ((nI_ltI (by decide) hj).mpr (by omega)))
theorem w_put (hW : zWT s) : zWT (zo_put s a b c).2 := zb_w hW (by decide) fun i hi => by
  split
  · exact hW
  · split
    · exact hW
    · exact hW.sh (hW.2.2.2.1 i hi).1 (hW.2.2.2.1 i hi).2
theorem w_copy (hW : zWT s) : zWT (zo_copy s a b c e g).2 := zb_w hW (by decide) fun i hi => zb_w hW (by decide) fun k hk => by
  split
  · exact hW
  · split
    · exact hW
    · split
      · exact hW
      · exact hW.sh (hW.2.2.2.1 k hk).1 (hW.2.2.2.1 k hk).2
theorem w_lay (hW : zWT s) : zWT (zo_lay s a b c).2 := zb_w hW (by decide) fun i hi => zb_w hW (by decide) fun k hk => by
  split
  · exact hW
  · exact hW.sh (hW.2.2.2.1 k hk).1 (hW.2.2.2.1 k hk).2
theorem w_take (hW : zWT s) : zWT (zo_take s a b c e).2 := zb_w hW (by decide) fun k hk => zb_w hW (by decide) fun n hn => zb_w0 hW fun i => by
  split
  · exact hW
  · exact hW.sp (zTk2_pre (zPre_disc (by omega)) n)
theorem w_shelf (hW : zWT s) : zWT (zo_shelf s a b c).2 := zb_w hW (by decide) fun i hi => zb_w hW (by decide) fun w hw => by
  have h9 := (hW.2.2.2.2.1 i hi).2.2.2.2.2
  split
  · exact zb_w hW (by decide) fun k hk => hW.hv (by omega) (by omega) h9
  · split
    · refine zb_w hW (by decide) fun k hk => ?_
      have hk9 := hW.2.2.2.1 k hk
      split
      · exact hW.hv (by omega) (by omega) h9
      · exact hW.hv (by omega) (by omega) hk9.2
    · exact hW.hv (by omega) (by omega) h9
theorem w_act (hW : zWT s) : zWT (zo_act s a b c).2 := by
  unfold zo_act
  split
  · exact hW.tr (by decide)
  · split
    · refine hW.tr ?_
      unfold zAct
      split
      · exact Nat.le_trans (zGoK_len ..) (by decide)
      · exact Nat.le_trans (zPaK_len ..) (by decide)
      · exact Nat.le_trans (zTeK_len ..) (by decide)
      · exact Nat.zero_le _
    · exact hW.tr (by decide)
theorem w_keep (hW : zWT s) : zWT (zo_keep s).2 := ⟨hW.1, hW.1, hW.2.2⟩
theorem w_again (hW : zWT s) : zWT (zo_again s).2 := by
  unfold zo_again
  split
  · exact ⟨hW.2.1, hW.2.1, hW.2.2⟩
  · exact hW
theorem w_of (hW : zWT s) : zWT (zo_of s a b c).2 := by
  unfold zo_of
  repeat' (first | exact hW | refine zb_w0 hW (fun _ => ?_) | split)
theorem w_about (hW : zWT s) : zWT (zo_about s a b c).2 := by
  unfold zo_about
  repeat' (first | exact hW | refine zb_w0 hW (fun _ => ?_) | split)
theorem w_told (hW : zWT s) : zWT (zo_told s a b).2 := by
  unfold zo_told
  repeat' (first | exact hW | refine zb_w0 hW (fun _ => ?_) | split)
theorem w_path (hW : zWT s) : zWT (zo_path s a b c).2 := by
  unfold zo_path
  repeat' (first | exact hW | refine zb_w0 hW (fun _ => ?_) | split)
theorem w_may (hW : zWT s) : zWT (zo_may s a b c).2 := by
  unfold zo_may
  repeat' (first | exact hW | refine zb_w0 hW (fun _ => ?_) | split)
theorem w_price (hW : zWT s) : zWT (zo_price s a b c).2 := by
  unfold zo_price
  repeat' (first | exact hW | refine zb_w0 hW (fun _ => ?_) | split)
theorem w_left (hW : zWT s) : zWT (zo_left s a b c).2 := by
  unfold zo_left
  repeat' (first | exact hW | refine zb_w0 hW (fun _ => ?_) | split)
theorem w_ways (hW : zWT s) : zWT (zo_ways s a b c).2 := by
  unfold zo_ways
  repeat' (first | exact hW | refine zb_w0 hW (fun _ => ?_) | split)
theorem w_retract (hW : zWT s) : zWT (zo_retract s a).2 := by
  unfold zo_retract
  repeat' (first | exact hW | refine zb_w0 hW (fun _ => ?_) | split)
theorem w_homotopic (hW : zWT s) : zWT (zo_homotopic s a b).2 := by
  unfold zo_homotopic
  repeat' (first | exact hW | refine zb_w0 hW (fun _ => ?_) | split)
theorem w_same (hW : zWT s) : zWT (zo_same s a b c).2 := by
  unfold zo_same
  repeat' (first | exact hW | refine zb_w0 hW (fun _ => ?_) | split)
theorem w_form (hW : zWT s) : zWT (zo_form s a).2 := by
  unfold zo_form
  repeat' (first | exact hW | refine zb_w0 hW (fun _ => ?_) | split)
theorem w_list (hW : zWT s) : zWT (zo_list s a b).2 := by
  unfold zo_list
  repeat' (first | exact hW | refine zb_w0 hW (fun _ => ?_) | split)
theorem w_listed (hW : zWT s) : zWT (zo_listed s a b c e).2 := by
  unfold zo_listed
  repeat' (first | exact hW | refine zb_w0 hW (fun _ => ?_) | split)
theorem w_tears (hW : zWT s) : zWT (zo_tears s a b c).2 := by
  unfold zo_tears
  repeat' (first | exact hW | refine zb_w0 hW (fun _ => ?_) | split)
theorem w_maps (hW : zWT s) : zWT (zo_maps s a b).2 := by
  unfold zo_maps
  repeat' (first | exact hW | refine zb_w0 hW (fun _ => ?_) | split)
theorem w_fence (hW : zWT s) : zWT (zo_fence s a b c e).2 := by
  unfold zo_fence
  repeat' (first | exact hW | refine zb_w0 hW (fun _ => ?_) | split)
theorem w_fixed (hW : zWT s) : zWT (zo_fixed s a b).2 := by
  unfold zo_fixed
  repeat' (first | exact hW | refine zb_w0 hW (fun _ => ?_) | split)
theorem w_chains (hW : zWT s) : zWT (zo_chains s a b).2 := by
  unfold zo_chains zb1
  repeat' (first | exact hW | refine zb_w0 hW (fun _ => ?_) | split)
theorem w_euler (hW : zWT s) : zWT (zo_euler s a).2 := by
  unfold zo_euler
  repeat' (first | exact hW | refine zb_w0 hW (fun _ => ?_) | split)
theorem w_holes (hW : zWT s) : zWT (zo_holes s a b).2 := by
  unfold zo_holes
  repeat' (first | exact hW | refine zb_w0 hW (fun _ => ?_) | split)
theorem w_item (hW : zWT s) : zWT (zo_item s a b c).2 := by
  unfold zo_item
  repeat' (first | exact hW | refine zb_w0 hW (fun _ => ?_) | split)
theorem w_taken (hW : zWT s) : zWT (zo_taken s a b).2 := by
  unfold zo_taken
  repeat' (first | exact hW | refine zb_w0 hW (fun _ => ?_) | split)
theorem w_trace (hW : zWT s) : zWT (zo_trace s a).2 := by
  unfold zo_trace
  repeat' (first | exact hW | refine zb_w0 hW (fun _ => ?_) | split)
theorem w_many (hW : zWT s) : zWT (zo_many s a).2 := by
  unfold zo_many
  repeat' (first | exact hW | refine zb_w0 hW (fun _ => ?_) | split)
end ZWF

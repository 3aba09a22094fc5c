/-! NO CALL but legion says that its text was faulty -/
theorem n4i {c : Prop} [Decidable c] {a b : Int32} (h : ¬ a = 4) (g : ¬ b = 4) : ¬ (if c then a else b) = 4 := by
  by_cases e : c
  · rw [if_pos e]; exact h
  · rw [if_neg e]; exact g
theorem n4s {σ ρ α : Type} {E : σ ⊕ ρ} {F : σ → α} {G : ρ → α} {P : α → Prop} (h : ∀ s, P (F s)) (g : ∀ r, P (G r)) : P (am_sel E F G) := by
  cases E with
  | inl s => exact h s
  | inr r => exact g r
section N4
variable {x0 x1 t m b g dr : Int32} {pr : Int32} {tn dw : Nat → Int32}
theorem tF (h : ¬ x0 = 4) (k : ¬ x1 = 4) : ¬ D_X11_firstOf x0 x1 = 4 := n4i k h
theorem tL : ¬ D_X11_troubleOfLegion t = 4 := n4i (by decide) (by decide)
theorem tM : ¬ D_X11_troubleOfMan x0 m = 4 := n4i (by decide) (n4i (by decide) (by decide))
theorem tT : ¬ D_X11_troubleOfTen x0 t = 4 := n4i (by decide) (n4i (by decide) (by decide))
theorem tS : ¬ D_X11_troubleOfStart x0 t pr = 4 := tF tL (n4i (by decide) (by decide))
theorem tO : ¬ D_X11_troubleOfLot x0 t pr tn = 4 := n4i (n4i (by decide) tT) tT
theorem tP : ¬ D_X11_troubleOfPresent x0 m pr = 4 := n4i (n4i (by decide) (by decide)) (by decide)
theorem tB : ¬ D_X11_troubleOfLotFrom x0 x1 t pr tn = 4 := tF (tF tT tS) tO
theorem tH : ¬ D_X11_troubleOfHelmet t b = 4 := tF tL (n4i (by decide) (by decide))
theorem tD : ¬ D_X11_troubleOfDrawer x0 m dr dw t b = 4 := n4i (n4i (tF tM tH) (by decide)) (tF tM tH)
theorem tG : ¬ D_X11_troubleOfGone t g = 4 := tF tL (n4i (by decide) (by decide))
theorem tR : ¬ D_X11_troubleOfDread x0 t = 4 := tF tL (n4i (by decide) (n4i (by decide) (by decide)))
theorem tE : ¬ D_X11_troubleOfSeed x0 = 4 := n4i (by decide) (n4i (by decide) (by decide))
theorem tW : ¬ D_X11_troubleOfWars x0 x1 = 4 := tF tE (n4i (by decide) (n4i (by decide) (by decide)))
end N4
theorem w_man {x0 : Int32} {x1 : Int32} {v_Lmen : Int32} {v_kind : Nat → Int32} {v_tenOf : Nat → Int32} {v_nerve : Nat → Int32} {v_Lfear : Int32} {v_fearTimes : Nat → Int32} {v_feared : Nat → Int32} {v_friendsOf : Nat → Int32} {v_angerOf : Nat → Int32} {v_present : Int32} {v_braced : Int32} : ¬ (D_X11_man x0 x1 v_Lmen v_kind v_tenOf v_nerve v_Lfear v_fearTimes v_feared v_friendsOf v_angerOf v_present v_braced).2 = 4 := by
  have W : ¬ (D_X11_man_a1 x0 x1 v_Lmen).2 = 4 := n4i (by decide) (n4i tM (by decide))
  unfold D_X11_man
  repeat' split
  all_goals exact W
theorem w_ten {x0 : Int32} {x1 : Int32} {v_Ltens : Int32} {v_present : Int32} {v_tenOf : Nat → Int32} {v_LoneIn : Int32} {v_lotsOf : Nat → Int32} : ¬ (D_X11_ten x0 x1 v_Ltens v_present v_tenOf v_LoneIn v_lotsOf).2 = 4 := by
  have W : ¬ (D_X11_ten_a1 x0 x1 v_Ltens).2 = 4 := n4i (by decide) (n4i tT (by decide))
  unfold D_X11_ten
  repeat' split
  all_goals exact W
theorem w_there {v_Ltens : Int32} {v_present : Int32} : ¬ (D_X11_there v_Ltens v_present).2 = 4 := by
  have W : ¬ (D_X11_there_a1 v_Ltens).2 = 4 := tL
  unfold D_X11_there
  exact W
theorem w_anger {v_Ltens : Int32} {v_present : Int32} {v_angerOf : Nat → Int32} : ¬ (D_X11_anger v_Ltens v_present v_angerOf).2 = 4 := by
  have W : ¬ (D_X11_anger_a1 v_Ltens).2 = 4 := tL
  unfold D_X11_anger
  exact W
theorem w_mutiny {v_Ltens : Int32} {v_present : Int32} {v_angerOf : Nat → Int32} {v_LmutinyTold : Int32} : ¬ (D_X11_mutiny v_Ltens v_present v_angerOf v_LmutinyTold).2 = 4 := by
  have W : ¬ (D_X11_mutiny_a1 v_Ltens).2 = 4 := tL
  unfold D_X11_mutiny
  repeat' split
  all_goals exact W
theorem w_runs {x0 : Int32} {v_Ltens : Int32} {v_present : Int32} {v_braced : Int32} {v_Lfear : Int32} {v_weight : Nat → Int32} {v_nerve : Nat → Int32} {v_fearTimes : Nat → Int32} {v_feared : Nat → Int32} : ¬ (D_X11_runs x0 v_Ltens v_present v_braced v_Lfear v_weight v_nerve v_fearTimes v_feared).2 = 4 := by
  have W : ¬ (D_X11_runs_a1 x0 v_Ltens v_present).2 = 4 := tS
  unfold D_X11_runs
  exact W
theorem w_holds {x0 : Int32} {v_Ltens : Int32} {v_present : Int32} {v_braced : Int32} {v_Lfear : Int32} {v_weight : Nat → Int32} {v_nerve : Nat → Int32} {v_fearTimes : Nat → Int32} {v_feared : Nat → Int32} {v_LholdsTold : Int32} : ¬ (D_X11_holds x0 v_Ltens v_present v_braced v_Lfear v_weight v_nerve v_fearTimes v_feared v_LholdsTold).2 = 4 := by
  have W : ¬ (D_X11_holds_a1 x0 v_Ltens v_present).2 = 4 := tS
  unfold D_X11_holds
  repeat' split
  all_goals exact W
theorem w_worst {v_Ltens : Int32} {v_present : Int32} {v_braced : Int32} {v_Lfear : Int32} {v_weight : Nat → Int32} {v_nerve : Nat → Int32} {v_fearTimes : Nat → Int32} {v_feared : Nat → Int32} : ¬ (D_X11_worst v_Ltens v_present v_braced v_Lfear v_weight v_nerve v_fearTimes v_feared).2 = 4 := by
  have W : ¬ (D_X11_worst_a1 v_Ltens).2 = 4 := tL
  unfold D_X11_worst
  repeat' split
  all_goals exact W
theorem w_breaks {v_Ltens : Int32} {v_present : Int32} {v_braced : Int32} {v_Lfear : Int32} {v_weight : Nat → Int32} {v_nerve : Nat → Int32} {v_fearTimes : Nat → Int32} {v_feared : Nat → Int32} {v_LholdsTold : Int32} : ¬ (D_X11_breaks v_Ltens v_present v_braced v_Lfear v_weight v_nerve v_fearTimes v_feared v_LholdsTold).2 = 4 := by
  have W : ¬ (D_X11_breaks_a1 v_Ltens).2 = 4 := tL
  unfold D_X11_breaks
  repeat' split
  all_goals exact W
theorem w_brace {x0 : Int32} {v_Ltens : Int32} {v_present : Int32} {v_braced : Int32} {v_Lfear : Int32} {v_weight : Nat → Int32} {v_nerve : Nat → Int32} {v_fearTimes : Nat → Int32} {v_feared : Nat → Int32} {v_LholdsTold : Int32} : ¬ (D_X11_brace x0 v_Ltens v_present v_braced v_Lfear v_weight v_nerve v_fearTimes v_feared v_LholdsTold).2 = 4 := by
  have W : ¬ (D_X11_brace_a1 x0 v_Ltens v_present).2 = 4 := tS
  unfold D_X11_brace
  repeat' split
  all_goals exact W
theorem w_toHearten {x0 : Int32} {v_Ltens : Int32} {v_present : Int32} {v_braced : Int32} {v_Lfear : Int32} {v_weight : Nat → Int32} {v_nerve : Nat → Int32} {v_fearTimes : Nat → Int32} {v_feared : Nat → Int32} : ¬ (D_X11_toHearten x0 v_Ltens v_present v_braced v_Lfear v_weight v_nerve v_fearTimes v_feared).2 = 4 := by
  have W : ¬ (D_X11_toHearten_a1 x0 v_Ltens v_present).2 = 4 := tS
  unfold D_X11_toHearten
  repeat' split
  all_goals exact W
theorem w_fearFor {x0 : Int32} {v_Ltens : Int32} {v_present : Int32} {v_braced : Int32} {v_weight : Nat → Int32} {v_nerve : Nat → Int32} {v_fearTimes : Nat → Int32} {v_feared : Nat → Int32} {v_LholdsTold : Int32} : ¬ (D_X11_fearFor x0 v_Ltens v_present v_braced v_weight v_nerve v_fearTimes v_feared v_LholdsTold).2 = 4 := by
  have W : ¬ (D_X11_fearFor_a1 x0 v_Ltens v_present).2 = 4 := tS
  unfold D_X11_fearFor
  split
  · exact n4s (P := fun z : Int32 × Int32 => ¬ z.2 = 4) (fun _ => W) (fun _ => W)
  · exact W
theorem w_sets {x0 : Int32} {v_Ltens : Int32} {v_present : Int32} {v_tenOf : Nat → Int32} {v_LoneIn : Int32} : ¬ (D_X11_sets x0 v_Ltens v_present v_tenOf v_LoneIn).2 = 4 := by
  have W : ¬ (D_X11_sets_a1 x0 v_Ltens v_present v_tenOf).2 = 4 := tO
  unfold D_X11_sets
  repeat' split
  all_goals exact W
theorem w_drawn {x0 : Int32} {x1 : Int32} {v_Lmen : Int32} {v_present : Int32} {v_tenOf : Nat → Int32} {v_LoneIn : Int32} {v_upper : Int64} {v_lower : Int64} : ¬ (D_X11_drawn x0 x1 v_Lmen v_present v_tenOf v_LoneIn v_upper v_lower).2.1 = 4 := by
  have W : ¬ (D_X11_drawn_a1 x0 v_Lmen v_present).2 = 4 := tP
  unfold D_X11_drawn
  repeat' split
  all_goals exact W
theorem w_holdsAfter {x0 : Int32} {x1 : Int32} {x2 : Int32} {v_Ltens : Int32} {v_present : Int32} {v_tenOf : Nat → Int32} {v_all : Int32} {v_held : Int32} {v_mutinous : Int32} {v_running : Int32} {v_worstBlack : Int32} {v_LoneIn : Int32} {v_ptr : Option Nat} {v_present2 : Int32} {v_braced : Int32} {v_braced2 : Int32} {v_seedNow : Int32} {v_seedNow2 : Int32} {v_tenOf2 : Nat → Int32} {v_feared : Nat → Int32} {v_feared2 : Nat → Int32} {v_angerOf : Nat → Int32} {v_angerOf2 : Nat → Int32} {v_lotsOf : Nat → Int32} {v_lotsOf2 : Nat → Int32} {v_friendsOf : Nat → Int32} {v_Lfear : Int32} {v_weight : Nat → Int32} {v_nerve : Nat → Int32} {v_fearTimes : Nat → Int32} {v_LholdsTold : Int32} {v_LmutinyTold : Int32} {v_upper : Int64} {v_lower : Int64} {l : Nat} : ¬ (D_X11_holdsAfter x0 x1 x2 v_Ltens v_present v_tenOf v_all v_held v_mutinous v_running v_worstBlack v_LoneIn v_ptr v_present2 v_braced v_braced2 v_seedNow v_seedNow2 v_tenOf2 v_feared v_feared2 v_angerOf v_angerOf2 v_lotsOf v_lotsOf2 v_friendsOf v_Lfear v_weight v_nerve v_fearTimes v_LholdsTold v_LmutinyTold v_upper v_lower l).2.1 = 4 := by
  have W : ¬ (D_X11_holdsAfter_a1 x0 x1 v_Ltens v_present v_tenOf).2 = 4 := tB
  unfold D_X11_holdsAfter
  repeat' split
  all_goals exact W
theorem w_mutinyAfter {x0 : Int32} {x1 : Int32} {v_Ltens : Int32} {v_present : Int32} {v_tenOf : Nat → Int32} {v_all : Int32} {v_held : Int32} {v_mutinous : Int32} {v_running : Int32} {v_worstBlack : Int32} {v_LoneIn : Int32} {v_ptr : Option Nat} {v_present2 : Int32} {v_braced : Int32} {v_braced2 : Int32} {v_seedNow : Int32} {v_seedNow2 : Int32} {v_tenOf2 : Nat → Int32} {v_feared : Nat → Int32} {v_feared2 : Nat → Int32} {v_angerOf : Nat → Int32} {v_angerOf2 : Nat → Int32} {v_lotsOf : Nat → Int32} {v_lotsOf2 : Nat → Int32} {v_friendsOf : Nat → Int32} {v_Lfear : Int32} {v_weight : Nat → Int32} {v_nerve : Nat → Int32} {v_fearTimes : Nat → Int32} {v_LholdsTold : Int32} {v_LmutinyTold : Int32} {v_upper : Int64} {v_lower : Int64} {l : Nat} : ¬ (D_X11_mutinyAfter x0 x1 v_Ltens v_present v_tenOf v_all v_held v_mutinous v_running v_worstBlack v_LoneIn v_ptr v_present2 v_braced v_braced2 v_seedNow v_seedNow2 v_tenOf2 v_feared v_feared2 v_angerOf v_angerOf2 v_lotsOf v_lotsOf2 v_friendsOf v_Lfear v_weight v_nerve v_fearTimes v_LholdsTold v_LmutinyTold v_upper v_lower l).2.1 = 4 := by
  have W : ¬ (D_X11_mutinyAfter_a1 x0 v_Ltens v_present v_tenOf).2 = 4 := tO
  unfold D_X11_mutinyAfter
  repeat' split
  all_goals exact W
theorem w_runsAfter {x0 : Int32} {x1 : Int32} {x2 : Int32} {v_Ltens : Int32} {v_present : Int32} {v_tenOf : Nat → Int32} {v_all : Int32} {v_held : Int32} {v_mutinous : Int32} {v_running : Int32} {v_worstBlack : Int32} {v_LoneIn : Int32} {v_ptr : Option Nat} {v_present2 : Int32} {v_braced : Int32} {v_braced2 : Int32} {v_seedNow : Int32} {v_seedNow2 : Int32} {v_tenOf2 : Nat → Int32} {v_feared : Nat → Int32} {v_feared2 : Nat → Int32} {v_angerOf : Nat → Int32} {v_angerOf2 : Nat → Int32} {v_lotsOf : Nat → Int32} {v_lotsOf2 : Nat → Int32} {v_friendsOf : Nat → Int32} {v_Lfear : Int32} {v_weight : Nat → Int32} {v_nerve : Nat → Int32} {v_fearTimes : Nat → Int32} {v_LholdsTold : Int32} {v_LmutinyTold : Int32} {v_upper : Int64} {v_lower : Int64} {l : Nat} : ¬ (D_X11_runsAfter x0 x1 x2 v_Ltens v_present v_tenOf v_all v_held v_mutinous v_running v_worstBlack v_LoneIn v_ptr v_present2 v_braced v_braced2 v_seedNow v_seedNow2 v_tenOf2 v_feared v_feared2 v_angerOf v_angerOf2 v_lotsOf v_lotsOf2 v_friendsOf v_Lfear v_weight v_nerve v_fearTimes v_LholdsTold v_LmutinyTold v_upper v_lower l).2.1 = 4 := by
  have W : ¬ (D_X11_runsAfter_a1 x0 x1 v_Ltens v_present v_tenOf).2 = 4 := tB
  unfold D_X11_runsAfter
  repeat' split
  all_goals exact W
theorem w_worstSet {x0 : Int32} {x1 : Int32} {v_Ltens : Int32} {v_present : Int32} {v_tenOf : Nat → Int32} {v_all : Int32} {v_held : Int32} {v_mutinous : Int32} {v_running : Int32} {v_worstBlack : Int32} {v_LoneIn : Int32} {v_ptr : Option Nat} {v_present2 : Int32} {v_braced : Int32} {v_braced2 : Int32} {v_seedNow : Int32} {v_seedNow2 : Int32} {v_tenOf2 : Nat → Int32} {v_feared : Nat → Int32} {v_feared2 : Nat → Int32} {v_angerOf : Nat → Int32} {v_angerOf2 : Nat → Int32} {v_lotsOf : Nat → Int32} {v_lotsOf2 : Nat → Int32} {v_friendsOf : Nat → Int32} {v_Lfear : Int32} {v_weight : Nat → Int32} {v_nerve : Nat → Int32} {v_fearTimes : Nat → Int32} {v_LholdsTold : Int32} {v_LmutinyTold : Int32} {l : Nat} : ¬ (D_X11_worstSet x0 x1 v_Ltens v_present v_tenOf v_all v_held v_mutinous v_running v_worstBlack v_LoneIn v_ptr v_present2 v_braced v_braced2 v_seedNow v_seedNow2 v_tenOf2 v_feared v_feared2 v_angerOf v_angerOf2 v_lotsOf v_lotsOf2 v_friendsOf v_Lfear v_weight v_nerve v_fearTimes v_LholdsTold v_LmutinyTold l).2.1 = 4 := by
  have W : ¬ (D_X11_worstSet_a1 x0 x1 v_Ltens v_present v_tenOf).2 = 4 := tB
  unfold D_X11_worstSet
  repeat' split
  all_goals exact W
theorem w_order {x0 : Int32} {v_Ltens : Int32} {v_present : Int32} {v_bestTens : Int32} {v_bestGood : Int32} {v_bestAll : Int32} {v_good : Int32} {v_ways : Int32} {v_ptr : Option Nat} {v_present2 : Int32} {v_braced : Int32} {v_braced2 : Int32} {v_seedNow : Int32} {v_seedNow2 : Int32} {v_tenOf : Nat → Int32} {v_tenOf2 : Nat → Int32} {v_feared : Nat → Int32} {v_feared2 : Nat → Int32} {v_angerOf : Nat → Int32} {v_angerOf2 : Nat → Int32} {v_lotsOf : Nat → Int32} {v_lotsOf2 : Nat → Int32} {v_LmutinyTold : Int32} {v_Lfear : Int32} {v_weight : Nat → Int32} {v_nerve : Nat → Int32} {v_fearTimes : Nat → Int32} {v_LholdsTold : Int32} {v_ptr2 : Option Nat} {v_present3 : Int32} {v_braced3 : Int32} {v_seedNow3 : Int32} {v_tenOf3 : Nat → Int32} {v_feared3 : Nat → Int32} {v_angerOf3 : Nat → Int32} {v_lotsOf3 : Nat → Int32} {v_ptr3 : Option Nat} {v_present4 : Int32} {v_braced4 : Int32} {v_seedNow4 : Int32} {v_tenOf4 : Nat → Int32} {v_feared4 : Nat → Int32} {v_angerOf4 : Nat → Int32} {v_lotsOf4 : Nat → Int32} {v_ptr4 : Option Nat} {v_present5 : Int32} {v_braced5 : Int32} {v_seedNow5 : Int32} {v_tenOf5 : Nat → Int32} {v_feared5 : Nat → Int32} {v_angerOf5 : Nat → Int32} {v_lotsOf5 : Nat → Int32} {v_LoneIn : Int32} {v_friendsOf : Nat → Int32} {l : Nat} : ¬ (D_X11_order x0 v_Ltens v_present v_bestTens v_bestGood v_bestAll v_good v_ways v_ptr v_present2 v_braced v_braced2 v_seedNow v_seedNow2 v_tenOf v_tenOf2 v_feared v_feared2 v_angerOf v_angerOf2 v_lotsOf v_lotsOf2 v_LmutinyTold v_Lfear v_weight v_nerve v_fearTimes v_LholdsTold v_ptr2 v_present3 v_braced3 v_seedNow3 v_tenOf3 v_feared3 v_angerOf3 v_lotsOf3 v_ptr3 v_present4 v_braced4 v_seedNow4 v_tenOf4 v_feared4 v_angerOf4 v_lotsOf4 v_ptr4 v_present5 v_braced5 v_seedNow5 v_tenOf5 v_feared5 v_angerOf5 v_lotsOf5 v_LoneIn v_friendsOf l).2.1 = 4 := by
  have W : ¬ (D_X11_order_a1 x0 v_Ltens v_present).2 = 4 := tS
  unfold D_X11_order
  repeat' split
  all_goals exact W
theorem w_orderOdds {x0 : Int32} {x1 : Int32} {v_Ltens : Int32} {v_present : Int32} {v_bestTens : Int32} {v_bestGood : Int32} {v_bestAll : Int32} {v_good : Int32} {v_ways : Int32} {v_ptr : Option Nat} {v_present2 : Int32} {v_braced : Int32} {v_braced2 : Int32} {v_seedNow : Int32} {v_seedNow2 : Int32} {v_tenOf : Nat → Int32} {v_tenOf2 : Nat → Int32} {v_feared : Nat → Int32} {v_feared2 : Nat → Int32} {v_angerOf : Nat → Int32} {v_angerOf2 : Nat → Int32} {v_lotsOf : Nat → Int32} {v_lotsOf2 : Nat → Int32} {v_LmutinyTold : Int32} {v_Lfear : Int32} {v_weight : Nat → Int32} {v_nerve : Nat → Int32} {v_fearTimes : Nat → Int32} {v_LholdsTold : Int32} {v_ptr2 : Option Nat} {v_present3 : Int32} {v_braced3 : Int32} {v_seedNow3 : Int32} {v_tenOf3 : Nat → Int32} {v_feared3 : Nat → Int32} {v_angerOf3 : Nat → Int32} {v_lotsOf3 : Nat → Int32} {v_ptr3 : Option Nat} {v_present4 : Int32} {v_braced4 : Int32} {v_seedNow4 : Int32} {v_tenOf4 : Nat → Int32} {v_feared4 : Nat → Int32} {v_angerOf4 : Nat → Int32} {v_lotsOf4 : Nat → Int32} {v_ptr4 : Option Nat} {v_present5 : Int32} {v_braced5 : Int32} {v_seedNow5 : Int32} {v_tenOf5 : Nat → Int32} {v_feared5 : Nat → Int32} {v_angerOf5 : Nat → Int32} {v_lotsOf5 : Nat → Int32} {v_LoneIn : Int32} {v_friendsOf : Nat → Int32} {v_upper : Int64} {v_lower : Int64} {l : Nat} : ¬ (D_X11_orderOdds x0 x1 v_Ltens v_present v_bestTens v_bestGood v_bestAll v_good v_ways v_ptr v_present2 v_braced v_braced2 v_seedNow v_seedNow2 v_tenOf v_tenOf2 v_feared v_feared2 v_angerOf v_angerOf2 v_lotsOf v_lotsOf2 v_LmutinyTold v_Lfear v_weight v_nerve v_fearTimes v_LholdsTold v_ptr2 v_present3 v_braced3 v_seedNow3 v_tenOf3 v_feared3 v_angerOf3 v_lotsOf3 v_ptr3 v_present4 v_braced4 v_seedNow4 v_tenOf4 v_feared4 v_angerOf4 v_lotsOf4 v_ptr4 v_present5 v_braced5 v_seedNow5 v_tenOf5 v_feared5 v_angerOf5 v_lotsOf5 v_LoneIn v_friendsOf v_upper v_lower l).2.1 = 4 := by
  have W : ¬ (D_X11_orderOdds_a1 x0 v_Ltens v_present).2 = 4 := tS
  unfold D_X11_orderOdds
  repeat' split
  all_goals exact W
theorem w_friends {v_Ltens : Int32} {v_fewest : Int32} {v_present : Int32} {v_most : Int32} {v_menOfTen : Nat → Int32} {v_ten : Nat → Int32} {v_bestTen : Nat → Int32} {v_friendsOf : Nat → Int32} : ¬ (D_X11_friends v_Ltens v_fewest v_present v_most v_menOfTen v_ten v_bestTen v_friendsOf).2.1 = 4 := by
  have W : ¬ (D_X11_friends_a1 v_Ltens).2 = 4 := tL
  unfold D_X11_friends
  repeat' split
  all_goals exact W
theorem w_newTen {x0 : Int32} {v_Lmen : Int32} {v_present : Int32} {v_fewest : Int32} {v_Ltens : Int32} {v_most : Int32} {v_menOfTen : Nat → Int32} {v_ten : Nat → Int32} {v_bestTen : Nat → Int32} {v_friendsOf : Nat → Int32} : ¬ (D_X11_newTen x0 v_Lmen v_present v_fewest v_Ltens v_most v_menOfTen v_ten v_bestTen v_friendsOf).2.1 = 4 := by
  have W : ¬ (D_X11_newTen_a1 x0 v_Lmen v_present).2 = 4 := tP
  unfold D_X11_newTen
  repeat' split
  all_goals exact W
theorem w_friendsNow {v_Ltens : Int32} {v_present : Int32} {v_tenOf : Nat → Int32} {v_friendsOf : Nat → Int32} : ¬ (D_X11_friendsNow v_Ltens v_present v_tenOf v_friendsOf).2 = 4 := by
  have W : ¬ (D_X11_friendsNow_a1 v_Ltens).2 = 4 := tL
  unfold D_X11_friendsNow
  exact W
theorem w_doubt {x0 : Int32} {v_Ltens : Int32} {v_beans : Int32} {v_upper : Int64} {v_lower : Int64} {v_upper2 : Int64} {v_lower2 : Int64} {v_beansLeft : Int32} {v_black : Int32} {v_blackLeft : Int32} {v_aside : Int32} {v_draws : Int32} {v_drawer : Nat → Int32} {v_wasBlack : Nat → Int32} {v_favoured : Int32} {v_shaken : Int32} {v_upper3 : Int64} {v_lower3 : Int64} : ¬ (D_X11_doubt x0 v_Ltens v_beans v_upper v_lower v_upper2 v_lower2 v_beansLeft v_black v_blackLeft v_aside v_draws v_drawer v_wasBlack v_favoured v_shaken v_upper3 v_lower3).2.1 = 4 := by
  have W : ¬ (D_X11_doubt_a1 v_Ltens v_beans).2 = 4 := tH
  unfold D_X11_doubt
  repeat' split
  all_goals exact W
theorem w_next {x0 : Int32} {x1 : Int32} {v_Lmen : Int32} {v_draws : Int32} {v_drawer : Nat → Int32} {v_Ltens : Int32} {v_beans : Int32} {v_upper : Int64} {v_lower : Int64} {v_upper2 : Int64} {v_lower2 : Int64} {v_beansLeft : Int32} {v_black : Int32} {v_blackLeft : Int32} {v_aside : Int32} {v_wasBlack : Nat → Int32} {v_favoured : Int32} {v_shaken : Int32} {v_upper3 : Int64} {v_lower3 : Int64} {v_upper4 : Int64} {v_lower4 : Int64} : ¬ (D_X11_next x0 x1 v_Lmen v_draws v_drawer v_Ltens v_beans v_upper v_lower v_upper2 v_lower2 v_beansLeft v_black v_blackLeft v_aside v_wasBlack v_favoured v_shaken v_upper3 v_lower3 v_upper4 v_lower4).2.1 = 4 := by
  have W : ¬ (D_X11_next_a1 x0 v_Lmen v_draws v_drawer v_Ltens v_beans).2 = 4 := tD
  unfold D_X11_next
  repeat' split
  all_goals exact W
theorem w_doubtIf {x0 : Int32} {x1 : Int32} {x2 : Int32} {v_Lmen : Int32} {v_draws : Int32} {v_drawer : Nat → Int32} {v_Ltens : Int32} {v_beans : Int32} {v_upper : Int64} {v_lower : Int64} {v_upper2 : Int64} {v_lower2 : Int64} {v_beansLeft : Int32} {v_black : Int32} {v_blackLeft : Int32} {v_aside : Int32} {v_wasBlack : Nat → Int32} {v_favoured : Int32} {v_shaken : Int32} {v_upper3 : Int64} {v_lower3 : Int64} : ¬ (D_X11_doubtIf x0 x1 x2 v_Lmen v_draws v_drawer v_Ltens v_beans v_upper v_lower v_upper2 v_lower2 v_beansLeft v_black v_blackLeft v_aside v_wasBlack v_favoured v_shaken v_upper3 v_lower3).2.1 = 4 := by
  have W : ¬ (D_X11_doubtIf_a1 x0 v_Lmen v_draws v_drawer v_Ltens v_beans).2 = 4 := tD
  unfold D_X11_doubtIf
  repeat' split
  all_goals exact W
theorem w_honest {x0 : Int32} {v_Ltens : Int32} {v_beans : Int32} {v_upper : Int64} {v_lower : Int64} {v_upper2 : Int64} {v_lower2 : Int64} {v_beansLeft : Int32} {v_black : Int32} {v_blackLeft : Int32} {v_aside : Int32} {v_draws : Int32} {v_drawer : Nat → Int32} {v_wasBlack : Nat → Int32} {v_favoured : Int32} : ¬ (D_X11_honest x0 v_Ltens v_beans v_upper v_lower v_upper2 v_lower2 v_beansLeft v_black v_blackLeft v_aside v_draws v_drawer v_wasBlack v_favoured).2.1 = 4 := by
  have W : ¬ (D_X11_honest_a1 v_Ltens v_beans).2 = 4 := tH
  unfold D_X11_honest
  repeat' split
  all_goals exact W
theorem w_gone {v_Ltens : Int32} {v_goneTold : Int32} {v_Lmen : Int32} {v_fitting : Int32} {v_inAll : Int32} {v_with_ : Nat → Int32} {v_amongs : Int32} {v_pair : Nat → Int32} {v_ofPair : Nat → Int32} : ¬ (D_X11_gone v_Ltens v_goneTold v_Lmen v_fitting v_inAll v_with_ v_amongs v_pair v_ofPair).2.1 = 4 := by
  have W : ¬ (D_X11_gone_a1 v_Ltens v_goneTold).2 = 4 := tG
  unfold D_X11_gone
  repeat' split
  all_goals exact W
theorem w_goneOf {x0 : Int32} {v_Lmen : Int32} {v_Ltens : Int32} {v_goneTold : Int32} {v_fitting : Int32} {v_inAll : Int32} {v_with_ : Nat → Int32} {v_amongs : Int32} {v_pair : Nat → Int32} {v_ofPair : Nat → Int32} : ¬ (D_X11_goneOf x0 v_Lmen v_Ltens v_goneTold v_fitting v_inAll v_with_ v_amongs v_pair v_ofPair).2.1 = 4 := by
  have W : ¬ (D_X11_goneOf_a1 x0 v_Lmen v_Ltens v_goneTold).2 = 4 := tF tM tG
  unfold D_X11_goneOf
  repeat' split
  all_goals exact W
theorem w_surelyGone {v_Ltens : Int32} {v_goneTold : Int32} {v_Lmen : Int32} {v_fitting : Int32} {v_inAll : Int32} {v_with_ : Nat → Int32} {v_amongs : Int32} {v_pair : Nat → Int32} {v_ofPair : Nat → Int32} : ¬ (D_X11_surelyGone v_Ltens v_goneTold v_Lmen v_fitting v_inAll v_with_ v_amongs v_pair v_ofPair).2.1 = 4 := by
  have W : ¬ (D_X11_surelyGone_a1 v_Ltens v_goneTold).2 = 4 := tG
  unfold D_X11_surelyGone
  repeat' split
  all_goals exact W
theorem w_ask {v_Ltens : Int32} {v_goneTold : Int32} {v_Lmen : Int32} {v_fitting : Int32} {v_inAll : Int32} {v_with_ : Nat → Int32} {v_amongs : Int32} {v_pair : Nat → Int32} {v_ofPair : Nat → Int32} : ¬ (D_X11_ask v_Ltens v_goneTold v_Lmen v_fitting v_inAll v_with_ v_amongs v_pair v_ofPair).2.1 = 4 := by
  have W : ¬ (D_X11_ask_a1 v_Ltens v_goneTold).2 = 4 := tG
  unfold D_X11_ask
  repeat' split
  all_goals exact W
theorem w_askLeaves {v_Ltens : Int32} {v_goneTold : Int32} {v_Lmen : Int32} {v_fitting : Int32} {v_inAll : Int32} {v_with_ : Nat → Int32} {v_amongs : Int32} {v_pair : Nat → Int32} {v_ofPair : Nat → Int32} : ¬ (D_X11_askLeaves v_Ltens v_goneTold v_Lmen v_fitting v_inAll v_with_ v_amongs v_pair v_ofPair).2.1 = 4 := by
  have W : ¬ (D_X11_askLeaves_a1 v_Ltens v_goneTold).2 = 4 := tG
  unfold D_X11_askLeaves
  repeat' split
  all_goals exact W
theorem w_line {x0 : Int32} {x1 : Int32} {x2 : Int32} {x3 : Int32} {v_Ltens : Int32} : ¬ (D_X11_line x0 x1 x2 x3 v_Ltens).2 = 4 := by
  have W : ¬ (D_X11_line_a1 x0 v_Ltens).2 = 4 := tR
  unfold D_X11_line
  repeat' split
  all_goals exact W
theorem w_rests {x0 : Int32} {v_Ltens : Int32} : ¬ (D_X11_rests x0 v_Ltens).2 = 4 := by
  have W : ¬ (D_X11_rests_a1 x0 v_Ltens).2 = 4 := tR
  unfold D_X11_rests
  repeat' split
  all_goals exact W
theorem w_rest {x0 : Int32} {v_Ltens : Int32} : ¬ (D_X11_rest x0 v_Ltens).2 = 4 := by
  have W : ¬ (D_X11_rest_a1 x0 v_Ltens).2 = 4 := tR
  unfold D_X11_rest
  split
  · exact n4s (P := fun z : Int32 × Int32 => ¬ z.2 = 4) (fun _ => W) (fun _ => W)
  · exact W
theorem w_wars {x0 : Int32} {x1 : Int32} {v_Ltens : Int32} {v_ptr : Option Nat} {v_present : Int32} {v_present2 : Int32} {v_braced : Int32} {v_braced2 : Int32} {v_seedNow : Int32} {v_seedNow2 : Int32} {v_tenOf : Nat → Int32} {v_tenOf2 : Nat → Int32} {v_feared : Nat → Int32} {v_feared2 : Nat → Int32} {v_angerOf : Nat → Int32} {v_angerOf2 : Nat → Int32} {v_lotsOf : Nat → Int32} {v_lotsOf2 : Nat → Int32} {v_held : Int32} {v_drawnIn : Nat → Int32} {v_LmutinyTold : Int32} {v_LoneIn : Int32} {v_friendsOf : Nat → Int32} {v_Lfear : Int32} {v_weight : Nat → Int32} {v_nerve : Nat → Int32} {v_fearTimes : Nat → Int32} {v_LholdsTold : Int32} {l : Nat} : ¬ (D_X11_wars x0 x1 v_Ltens v_ptr v_present v_present2 v_braced v_braced2 v_seedNow v_seedNow2 v_tenOf v_tenOf2 v_feared v_feared2 v_angerOf v_angerOf2 v_lotsOf v_lotsOf2 v_held v_drawnIn v_LmutinyTold v_LoneIn v_friendsOf v_Lfear v_weight v_nerve v_fearTimes v_LholdsTold l).2.1 = 4 := by
  have W : ¬ (D_X11_wars_a1 x0 x1 v_Ltens).2 = 4 := tF tL tW
  unfold D_X11_wars
  repeat' split
  all_goals exact W
theorem w_warsLeft {x0 : Int32} {x1 : Int32} {v_Ltens : Int32} {v_ptr : Option Nat} {v_present : Int32} {v_present2 : Int32} {v_braced : Int32} {v_braced2 : Int32} {v_seedNow : Int32} {v_seedNow2 : Int32} {v_tenOf : Nat → Int32} {v_tenOf2 : Nat → Int32} {v_feared : Nat → Int32} {v_feared2 : Nat → Int32} {v_angerOf : Nat → Int32} {v_angerOf2 : Nat → Int32} {v_lotsOf : Nat → Int32} {v_lotsOf2 : Nat → Int32} {v_held : Int32} {v_drawnIn : Nat → Int32} {v_LmutinyTold : Int32} {v_LoneIn : Int32} {v_friendsOf : Nat → Int32} {v_Lfear : Int32} {v_weight : Nat → Int32} {v_nerve : Nat → Int32} {v_fearTimes : Nat → Int32} {v_LholdsTold : Int32} {l : Nat} : ¬ (D_X11_warsLeft x0 x1 v_Ltens v_ptr v_present v_present2 v_braced v_braced2 v_seedNow v_seedNow2 v_tenOf v_tenOf2 v_feared v_feared2 v_angerOf v_angerOf2 v_lotsOf v_lotsOf2 v_held v_drawnIn v_LmutinyTold v_LoneIn v_friendsOf v_Lfear v_weight v_nerve v_fearTimes v_LholdsTold l).2.1 = 4 := by
  have W : ¬ (D_X11_warsLeft_a1 x0 x1 v_Ltens).2 = 4 := tF tL tW
  unfold D_X11_warsLeft
  repeat' split
  all_goals exact W
theorem w_warsOf {x0 : Int32} {x1 : Int32} {x2 : Int32} {v_Lmen : Int32} {v_ptr : Option Nat} {v_present : Int32} {v_present2 : Int32} {v_braced : Int32} {v_braced2 : Int32} {v_seedNow : Int32} {v_seedNow2 : Int32} {v_tenOf : Nat → Int32} {v_tenOf2 : Nat → Int32} {v_feared : Nat → Int32} {v_feared2 : Nat → Int32} {v_angerOf : Nat → Int32} {v_angerOf2 : Nat → Int32} {v_lotsOf : Nat → Int32} {v_lotsOf2 : Nat → Int32} {v_held : Int32} {v_drawnIn : Nat → Int32} {v_Ltens : Int32} {v_LmutinyTold : Int32} {v_LoneIn : Int32} {v_friendsOf : Nat → Int32} {v_Lfear : Int32} {v_weight : Nat → Int32} {v_nerve : Nat → Int32} {v_fearTimes : Nat → Int32} {v_LholdsTold : Int32} {l : Nat} : ¬ (D_X11_warsOf x0 x1 x2 v_Lmen v_ptr v_present v_present2 v_braced v_braced2 v_seedNow v_seedNow2 v_tenOf v_tenOf2 v_feared v_feared2 v_angerOf v_angerOf2 v_lotsOf v_lotsOf2 v_held v_drawnIn v_Ltens v_LmutinyTold v_LoneIn v_friendsOf v_Lfear v_weight v_nerve v_fearTimes v_LholdsTold l).2.1 = 4 := by
  have W : ¬ (D_X11_warsOf_a1 x0 x1 x2 v_Lmen).2 = 4 := tF tM tW
  unfold D_X11_warsOf
  repeat' split
  all_goals exact W
theorem w_seed {x0 : Int32} {v_Ltens : Int32} {v_seedNow : Int32} : ¬ (D_X11_seed x0 v_Ltens v_seedNow).2.1 = 4 := by
  have W : ¬ (D_X11_seed_a1 x0 v_Ltens).2 = 4 := tF tL tE
  unfold D_X11_seed
  repeat' split
  all_goals exact W
theorem w_lot {x0 : Int32} {v_Ltens : Int32} {v_present : Int32} {v_angerOf : Nat → Int32} {v_LmutinyTold : Int32} {v_tenOf : Nat → Int32} {v_top : Int32} {v_ptr : Option Nat} {v_present2 : Int32} {v_braced : Int32} {v_braced2 : Int32} {v_seedNow : Int32} {v_seedNow2 : Int32} {v_tenOf2 : Nat → Int32} {v_feared : Nat → Int32} {v_feared2 : Nat → Int32} {v_angerOf2 : Nat → Int32} {v_lotsOf : Nat → Int32} {v_lotsOf2 : Nat → Int32} {v_acts : Int32} {v_LoneIn : Int32} {v_friendsOf : Nat → Int32} {l : Nat} : ¬ (D_X11_lot x0 v_Ltens v_present v_angerOf v_LmutinyTold v_tenOf v_top v_ptr v_present2 v_braced v_braced2 v_seedNow v_seedNow2 v_tenOf2 v_feared v_feared2 v_angerOf2 v_lotsOf v_lotsOf2 v_acts v_LoneIn v_friendsOf l).2.1 = 4 := by
  have W : ¬ (D_X11_lot_a3 x0 v_Ltens v_present v_angerOf v_LmutinyTold v_tenOf).2 = 4 := tF (tF tT (n4i (n4i (by decide) (by decide)) (by decide))) tO
  unfold D_X11_lot
  repeat' split
  all_goals exact W
theorem w_braces {x0 : Int32} {x1 : Int32} {v_Lmen : Int32} {v_present : Int32} {v_braced : Int32} {v_top : Int32} {v_ptr : Option Nat} {v_present2 : Int32} {v_braced2 : Int32} {v_seedNow : Int32} {v_seedNow2 : Int32} {v_tenOf : Nat → Int32} {v_tenOf2 : Nat → Int32} {v_feared : Nat → Int32} {v_feared2 : Nat → Int32} {v_angerOf : Nat → Int32} {v_angerOf2 : Nat → Int32} {v_lotsOf : Nat → Int32} {v_lotsOf2 : Nat → Int32} {v_acts : Int32} {l : Nat} : ¬ (D_X11_braces x0 x1 v_Lmen v_present v_braced v_top v_ptr v_present2 v_braced2 v_seedNow v_seedNow2 v_tenOf v_tenOf2 v_feared v_feared2 v_angerOf v_angerOf2 v_lotsOf v_lotsOf2 v_acts l).2.1 = 4 := by
  have W : ¬ (D_X11_braces_a1 x0 x1 v_Lmen v_present v_braced).2 = 4 := n4i (n4i (by decide) (n4i (by decide) tM)) tM
  unfold D_X11_braces
  repeat' split
  all_goals exact W
theorem w_move {x0 : Int32} {x1 : Int32} {v_Lmen : Int32} {v_Ltens : Int32} {v_present : Int32} {v_tenOf : Nat → Int32} {v_top : Int32} {v_ptr : Option Nat} {v_present2 : Int32} {v_braced : Int32} {v_braced2 : Int32} {v_seedNow : Int32} {v_seedNow2 : Int32} {v_tenOf2 : Nat → Int32} {v_feared : Nat → Int32} {v_feared2 : Nat → Int32} {v_angerOf : Nat → Int32} {v_angerOf2 : Nat → Int32} {v_lotsOf : Nat → Int32} {v_lotsOf2 : Nat → Int32} {v_acts : Int32} {l : Nat} : ¬ (D_X11_move x0 x1 v_Lmen v_Ltens v_present v_tenOf v_top v_ptr v_present2 v_braced v_braced2 v_seedNow v_seedNow2 v_tenOf2 v_feared v_feared2 v_angerOf v_angerOf2 v_lotsOf v_lotsOf2 v_acts l).2.1 = 4 := by
  have W : ¬ (D_X11_move_a1 x0 x1 v_Lmen v_Ltens v_present v_tenOf).2 = 4 := n4i (n4i (by decide) (n4i (by decide) (tF tM tT))) (tF tM tT)
  unfold D_X11_move
  repeat' split
  all_goals exact W
theorem w_goneAt {x0 : Int32} {v_Ltens : Int32} {v_goneTold : Int32} {v_Lmen : Int32} {v_amongs : Int32} {v_pair : Nat → Int32} {v_ofPair : Nat → Int32} : ¬ (D_X11_goneAt x0 v_Ltens v_goneTold v_Lmen v_amongs v_pair v_ofPair).2 = 4 := by
  have W : ¬ (D_X11_goneAt_a1 v_Ltens v_goneTold).2 = 4 := tG
  have V : ¬ (D_X11_goneAt_a2 x0 v_goneTold v_Lmen v_amongs v_pair v_ofPair).2 = 4 := n4i (by decide) (by decide)
  unfold D_X11_goneAt
  split
  · exact V
  · exact W
theorem w_image {v_Ltens : Int32} {v_images : Int32} {v_ptr : Option Nat} {v_present : Int32} {v_present2 : Int32} {v_braced : Int32} {v_braced2 : Int32} {v_seedNow : Int32} {v_seedNow2 : Int32} {v_tenOf : Nat → Int32} {v_tenOf2 : Nat → Int32} {v_feared : Nat → Int32} {v_feared2 : Nat → Int32} {v_angerOf : Nat → Int32} {v_angerOf2 : Nat → Int32} {v_lotsOf : Nat → Int32} {v_lotsOf2 : Nat → Int32} {l : Nat} : ¬ (D_X11_image v_Ltens v_images v_ptr v_present v_present2 v_braced v_braced2 v_seedNow v_seedNow2 v_tenOf v_tenOf2 v_feared v_feared2 v_angerOf v_angerOf2 v_lotsOf v_lotsOf2 l).2.1 = 4 := by
  have W : ¬ (D_X11_image_a1 v_Ltens).2 = 4 := tL
  have V : ¬ (D_X11_image_a3 v_images v_ptr v_present v_present2 v_braced v_braced2 v_seedNow v_seedNow2 v_tenOf v_tenOf2 v_feared v_feared2 v_angerOf v_angerOf2 v_lotsOf v_lotsOf2 l).2 = 4 := n4i (by decide) (by decide)
  unfold D_X11_image
  split
  · exact V
  · exact W

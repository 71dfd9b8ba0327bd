/-! THE LAW: its cases -/
set_option maxHeartbeats 4000000 in
set_option maxRecDepth 100000 in
theorem lw_c16 {L : LL} {Γ : GC} {o : Nat → Nat} {q : Nat → Nat → Nat} {o2 : Nat} {u : Nat → Nat} {Z : Nat → OS} {S : OS} {b N : Nat} {xs : Nat → Int32} {i : Int32} (C : Cx L Γ cL_law RL (rmk 12 48 1334 478)) (X : Xs Γ b N xs) (h : Rel Z S) (h1 : vp_in (i + 1) N) (h2 : vp_in (i + 2) N) (h3 : vp_in (i + 3) N) (h4 : vp_in (i + 4) N) (kk : ∀ (Z' : Nat → OS) (S' : OS), Rel Z' S' → G L Γ 48 1334 (cells7 L o q Z' ++ cells8 L o2 u S') 1592 [(3, .int i), (0, .ref b), (1, .ref (o 0)), (2, .ref o2)] []) : G L Γ 48 1334 (cells7 L o q Z ++ cells8 L o2 u S) 730 [(3, .int i), (0, .ref b), (1, .ref (o 0)), (2, .ref o2)] [] := by
  obtain ⟨r, Z', S', e7, e8, hr⟩ := q_learn h (xs (i + 1).toNatClampNeg) (xs (i + 2).toNatClampNeg) (xs (i + 3).toNatClampNeg)
  refine g_aload_n C 731 2 dL_law_730 rfl rfl ?_
  refine g_aload_n C 732 1 dL_law_731 rfl rfl ?_
  refine g_iload_n C 733 0 dL_law_732 rfl rfl ?_
  refine g_iconst C 734 (1 : Int32) dL_law_733 rfl rfl ?_
  refine g_iadd C 735 dL_law_734 rfl ?_
  refine g_sld C X 736 h1 dL_law_735 rfl ?_
  refine g_aload_n C 737 1 dL_law_736 rfl rfl ?_
  refine g_iload_n C 738 0 dL_law_737 rfl rfl ?_
  refine g_iconst C 739 (2 : Int32) dL_law_738 rfl rfl ?_
  refine g_iadd C 740 dL_law_739 rfl ?_
  refine g_sld C X 741 h2 dL_law_740 rfl ?_
  refine g_aload_n C 742 1 dL_law_741 rfl rfl ?_
  refine g_iload_n C 743 0 dL_law_742 rfl rfl ?_
  refine g_iconst C 744 (3 : Int32) dL_law_743 rfl rfl ?_
  refine g_iadd C 745 dL_law_744 rfl ?_
  refine g_sld C X 746 h3 dL_law_745 rfl ?_
  refine g_call7 (Z' := Z') C 749 [] [.int r] (ct_X7_learn L o q Z (xs (i + 1).toNatClampNeg) (xs (i + 2).toNatClampNeg) (xs (i + 3).toNatClampNeg) _ e7) kX7_learn kvX7_learn wl_L_82 rfl rfl rfl rfl (Nat.le_of_ble_eq_true rfl) ⟨Nat.le_of_ble_eq_true rfl, Nat.le_of_ble_eq_true rfl⟩ ⟨Nat.le_of_ble_eq_true rfl, Nat.le_of_ble_eq_true rfl⟩ dL_law_746 rfl ?_
  refine g_aload_n C 750 3 dL_law_749 rfl rfl ?_
  refine g_aload_n C 751 1 dL_law_750 rfl rfl ?_
  refine g_iload_n C 752 0 dL_law_751 rfl rfl ?_
  refine g_iconst C 753 (1 : Int32) dL_law_752 rfl rfl ?_
  refine g_iadd C 754 dL_law_753 rfl ?_
  refine g_sld C X 755 h1 dL_law_754 rfl ?_
  refine g_aload_n C 756 1 dL_law_755 rfl rfl ?_
  refine g_iload_n C 757 0 dL_law_756 rfl rfl ?_
  refine g_iconst C 758 (2 : Int32) dL_law_757 rfl rfl ?_
  refine g_iadd C 759 dL_law_758 rfl ?_
  refine g_sld C X 760 h2 dL_law_759 rfl ?_
  refine g_aload_n C 761 1 dL_law_760 rfl rfl ?_
  refine g_iload_n C 762 0 dL_law_761 rfl rfl ?_
  refine g_iconst C 763 (3 : Int32) dL_law_762 rfl rfl ?_
  refine g_iadd C 764 dL_law_763 rfl ?_
  refine g_sld C X 765 h3 dL_law_764 rfl ?_
  refine g_call8 (S' := S') C 768 [.int r] [.int r, .int r] (ct_X8_learn L o2 u S (xs (i + 1).toNatClampNeg) (xs (i + 2).toNatClampNeg) (xs (i + 3).toNatClampNeg) _ e8) kX8_learn kvX8_learn wl_L_85 rfl rfl rfl rfl (Nat.le_of_ble_eq_true rfl) ⟨Nat.le_of_ble_eq_true rfl, Nat.le_of_ble_eq_true rfl⟩ ⟨Nat.le_of_ble_eq_true rfl, Nat.le_of_ble_eq_true rfl⟩ dL_law_765 rfl ?_
  exact g_icmp_eq C 1592 771 dL_law_768 (by decide) rfl (fun _ => kk Z' S' hr) (fun c => absurd rfl c)
set_option maxHeartbeats 4000000 in
set_option maxRecDepth 100000 in
theorem lw_c17 {L : LL} {Γ : GC} {o : Nat → Nat} {q : Nat → Nat → Nat} {o2 : Nat} {u : Nat → Nat} {Z : Nat → OS} {S : OS} {b N : Nat} {xs : Nat → Int32} {i : Int32} (C : Cx L Γ cL_law RL (rmk 12 48 1334 478)) (X : Xs Γ b N xs) (h : Rel Z S) (h1 : vp_in (i + 1) N) (h2 : vp_in (i + 2) N) (h3 : vp_in (i + 3) N) (h4 : vp_in (i + 4) N) (kk : ∀ (Z' : Nat → OS) (S' : OS), Rel Z' S' → G L Γ 48 1334 (cells7 L o q Z' ++ cells8 L o2 u S') 1592 [(3, .int i), (0, .ref b), (1, .ref (o 0)), (2, .ref o2)] []) : G L Γ 48 1334 (cells7 L o q Z ++ cells8 L o2 u S) 773 [(3, .int i), (0, .ref b), (1, .ref (o 0)), (2, .ref o2)] [] := by
  obtain ⟨r, Z', S', e7, e8, hr⟩ := q_drawnWay h (xs (i + 1).toNatClampNeg) (xs (i + 2).toNatClampNeg) (xs (i + 3).toNatClampNeg)
  refine g_aload_n C 774 2 dL_law_773 rfl rfl ?_
  refine g_aload_n C 775 1 dL_law_774 rfl rfl ?_
  refine g_iload_n C 776 0 dL_law_775 rfl rfl ?_
  refine g_iconst C 777 (1 : Int32) dL_law_776 rfl rfl ?_
  refine g_iadd C 778 dL_law_777 rfl ?_
  refine g_sld C X 779 h1 dL_law_778 rfl ?_
  refine g_aload_n C 780 1 dL_law_779 rfl rfl ?_
  refine g_iload_n C 781 0 dL_law_780 rfl rfl ?_
  refine g_iconst C 782 (2 : Int32) dL_law_781 rfl rfl ?_
  refine g_iadd C 783 dL_law_782 rfl ?_
  refine g_sld C X 784 h2 dL_law_783 rfl ?_
  refine g_aload_n C 785 1 dL_law_784 rfl rfl ?_
  refine g_iload_n C 786 0 dL_law_785 rfl rfl ?_
  refine g_iconst C 787 (3 : Int32) dL_law_786 rfl rfl ?_
  refine g_iadd C 788 dL_law_787 rfl ?_
  refine g_sld C X 789 h3 dL_law_788 rfl ?_
  refine g_call7 (Z' := Z') C 792 [] [.long r] (ct_X7_drawnWay L o q Z (xs (i + 1).toNatClampNeg) (xs (i + 2).toNatClampNeg) (xs (i + 3).toNatClampNeg) _ e7) kX7_drawnWay kvX7_drawnWay wl_L_86 rfl rfl rfl rfl (Nat.le_of_ble_eq_true rfl) ⟨Nat.le_of_ble_eq_true rfl, Nat.le_of_ble_eq_true rfl⟩ ⟨Nat.le_of_ble_eq_true rfl, Nat.le_of_ble_eq_true rfl⟩ dL_law_789 rfl ?_
  refine g_aload_n C 793 3 dL_law_792 rfl rfl ?_
  refine g_aload_n C 794 1 dL_law_793 rfl rfl ?_
  refine g_iload_n C 795 0 dL_law_794 rfl rfl ?_
  refine g_iconst C 796 (1 : Int32) dL_law_795 rfl rfl ?_
  refine g_iadd C 797 dL_law_796 rfl ?_
  refine g_sld C X 798 h1 dL_law_797 rfl ?_
  refine g_aload_n C 799 1 dL_law_798 rfl rfl ?_
  refine g_iload_n C 800 0 dL_law_799 rfl rfl ?_
  refine g_iconst C 801 (2 : Int32) dL_law_800 rfl rfl ?_
  refine g_iadd C 802 dL_law_801 rfl ?_
  refine g_sld C X 803 h2 dL_law_802 rfl ?_
  refine g_aload_n C 804 1 dL_law_803 rfl rfl ?_
  refine g_iload_n C 805 0 dL_law_804 rfl rfl ?_
  refine g_iconst C 806 (3 : Int32) dL_law_805 rfl rfl ?_
  refine g_iadd C 807 dL_law_806 rfl ?_
  refine g_sld C X 808 h3 dL_law_807 rfl ?_
  refine g_call8 (S' := S') C 811 [.long r] [.long r, .long r] (ct_X8_drawnWay L o2 u S (xs (i + 1).toNatClampNeg) (xs (i + 2).toNatClampNeg) (xs (i + 3).toNatClampNeg) _ e8) kX8_drawnWay kvX8_drawnWay wl_L_90 rfl rfl rfl rfl (Nat.le_of_ble_eq_true rfl) ⟨Nat.le_of_ble_eq_true rfl, Nat.le_of_ble_eq_true rfl⟩ ⟨Nat.le_of_ble_eq_true rfl, Nat.le_of_ble_eq_true rfl⟩ dL_law_808 rfl ?_
  refine g_lcmp C 812 dL_law_811 rfl ?_
  exact g_if_eq C 1592 815 dL_law_812 (by decide) rfl (fun _ => kk Z' S' hr) (fun c => absurd (lg_cmp_self r) c)
set_option maxHeartbeats 4000000 in
set_option maxRecDepth 100000 in
theorem lw_c18 {L : LL} {Γ : GC} {o : Nat → Nat} {q : Nat → Nat → Nat} {o2 : Nat} {u : Nat → Nat} {Z : Nat → OS} {S : OS} {b N : Nat} {xs : Nat → Int32} {i : Int32} (C : Cx L Γ cL_law RL (rmk 12 48 1334 478)) (X : Xs Γ b N xs) (h : Rel Z S) (h1 : vp_in (i + 1) N) (h2 : vp_in (i + 2) N) (h3 : vp_in (i + 3) N) (h4 : vp_in (i + 4) N) (kk : ∀ (Z' : Nat → OS) (S' : OS), Rel Z' S' → G L Γ 48 1334 (cells7 L o q Z' ++ cells8 L o2 u S') 1592 [(3, .int i), (0, .ref b), (1, .ref (o 0)), (2, .ref o2)] []) : G L Γ 48 1334 (cells7 L o q Z ++ cells8 L o2 u S) 817 [(3, .int i), (0, .ref b), (1, .ref (o 0)), (2, .ref o2)] [] := by
  obtain ⟨r, Z', S', e7, e8, hr⟩ := q_alike h (xs (i + 1).toNatClampNeg) (xs (i + 2).toNatClampNeg)
  refine g_aload_n C 818 2 dL_law_817 rfl rfl ?_
  refine g_aload_n C 819 1 dL_law_818 rfl rfl ?_
  refine g_iload_n C 820 0 dL_law_819 rfl rfl ?_
  refine g_iconst C 821 (1 : Int32) dL_law_820 rfl rfl ?_
  refine g_iadd C 822 dL_law_821 rfl ?_
  refine g_sld C X 823 h1 dL_law_822 rfl ?_
  refine g_aload_n C 824 1 dL_law_823 rfl rfl ?_
  refine g_iload_n C 825 0 dL_law_824 rfl rfl ?_
  refine g_iconst C 826 (2 : Int32) dL_law_825 rfl rfl ?_
  refine g_iadd C 827 dL_law_826 rfl ?_
  refine g_sld C X 828 h2 dL_law_827 rfl ?_
  refine g_call7 (Z' := Z') C 831 [] [.int r] (ct_X7_alike L o q Z (xs (i + 1).toNatClampNeg) (xs (i + 2).toNatClampNeg) _ e7) kX7_alike kvX7_alike wl_L_91 rfl rfl rfl rfl (Nat.le_of_ble_eq_true rfl) ⟨Nat.le_of_ble_eq_true rfl, Nat.le_of_ble_eq_true rfl⟩ ⟨Nat.le_of_ble_eq_true rfl, Nat.le_of_ble_eq_true rfl⟩ dL_law_828 rfl ?_
  refine g_aload_n C 832 3 dL_law_831 rfl rfl ?_
  refine g_aload_n C 833 1 dL_law_832 rfl rfl ?_
  refine g_iload_n C 834 0 dL_law_833 rfl rfl ?_
  refine g_iconst C 835 (1 : Int32) dL_law_834 rfl rfl ?_
  refine g_iadd C 836 dL_law_835 rfl ?_
  refine g_sld C X 837 h1 dL_law_836 rfl ?_
  refine g_aload_n C 838 1 dL_law_837 rfl rfl ?_
  refine g_iload_n C 839 0 dL_law_838 rfl rfl ?_
  refine g_iconst C 840 (2 : Int32) dL_law_839 rfl rfl ?_
  refine g_iadd C 841 dL_law_840 rfl ?_
  refine g_sld C X 842 h2 dL_law_841 rfl ?_
  refine g_call8 (S' := S') C 845 [.int r] [.int r, .int r] (ct_X8_alike L o2 u S (xs (i + 1).toNatClampNeg) (xs (i + 2).toNatClampNeg) _ e8) kX8_alike kvX8_alike wl_L_94 rfl rfl rfl rfl (Nat.le_of_ble_eq_true rfl) ⟨Nat.le_of_ble_eq_true rfl, Nat.le_of_ble_eq_true rfl⟩ ⟨Nat.le_of_ble_eq_true rfl, Nat.le_of_ble_eq_true rfl⟩ dL_law_842 rfl ?_
  exact g_icmp_eq C 1592 848 dL_law_845 (by decide) rfl (fun _ => kk Z' S' hr) (fun c => absurd rfl c)
set_option maxHeartbeats 4000000 in
set_option maxRecDepth 100000 in
theorem lw_c19 {L : LL} {Γ : GC} {o : Nat → Nat} {q : Nat → Nat → Nat} {o2 : Nat} {u : Nat → Nat} {Z : Nat → OS} {S : OS} {b N : Nat} {xs : Nat → Int32} {i : Int32} (C : Cx L Γ cL_law RL (rmk 12 48 1334 478)) (X : Xs Γ b N xs) (h : Rel Z S) (h1 : vp_in (i + 1) N) (h2 : vp_in (i + 2) N) (h3 : vp_in (i + 3) N) (h4 : vp_in (i + 4) N) (kk : ∀ (Z' : Nat → OS) (S' : OS), Rel Z' S' → G L Γ 48 1334 (cells7 L o q Z' ++ cells8 L o2 u S') 1592 [(3, .int i), (0, .ref b), (1, .ref (o 0)), (2, .ref o2)] []) : G L Γ 48 1334 (cells7 L o q Z ++ cells8 L o2 u S) 850 [(3, .int i), (0, .ref b), (1, .ref (o 0)), (2, .ref o2)] [] := by
  obtain ⟨r, e7, e8⟩ := q_mostAlike h
  refine g_aload_n C 851 2 dL_law_850 rfl rfl ?_
  refine g_call7 (Z' := Z) C 854 [] [.int r] (ct_X7_mostAlike L o q Z _ e7) kX7_mostAlike kvX7_mostAlike wl_L_95 rfl rfl rfl rfl (Nat.le_of_ble_eq_true rfl) ⟨Nat.le_of_ble_eq_true rfl, Nat.le_of_ble_eq_true rfl⟩ ⟨Nat.le_of_ble_eq_true rfl, Nat.le_of_ble_eq_true rfl⟩ dL_law_851 rfl ?_
  refine g_aload_n C 855 3 dL_law_854 rfl rfl ?_
  refine g_call8 (S' := S) C 858 [.int r] [.int r, .int r] (ct_X8_mostAlike L o2 u S _ e8) kX8_mostAlike kvX8_mostAlike wl_L_98 rfl rfl rfl rfl (Nat.le_of_ble_eq_true rfl) ⟨Nat.le_of_ble_eq_true rfl, Nat.le_of_ble_eq_true rfl⟩ ⟨Nat.le_of_ble_eq_true rfl, Nat.le_of_ble_eq_true rfl⟩ dL_law_855 rfl ?_
  exact g_icmp_eq C 1592 861 dL_law_858 (by decide) rfl (fun _ => kk Z S h) (fun c => absurd rfl c)
set_option maxHeartbeats 4000000 in
set_option maxRecDepth 100000 in
theorem lw_c20 {L : LL} {Γ : GC} {o : Nat → Nat} {q : Nat → Nat → Nat} {o2 : Nat} {u : Nat → Nat} {Z : Nat → OS} {S : OS} {b N : Nat} {xs : Nat → Int32} {i : Int32} (C : Cx L Γ cL_law RL (rmk 12 48 1334 478)) (X : Xs Γ b N xs) (h : Rel Z S) (h1 : vp_in (i + 1) N) (h2 : vp_in (i + 2) N) (h3 : vp_in (i + 3) N) (h4 : vp_in (i + 4) N) (kk : ∀ (Z' : Nat → OS) (S' : OS), Rel Z' S' → G L Γ 48 1334 (cells7 L o q Z' ++ cells8 L o2 u S') 1592 [(3, .int i), (0, .ref b), (1, .ref (o 0)), (2, .ref o2)] []) : G L Γ 48 1334 (cells7 L o q Z ++ cells8 L o2 u S) 863 [(3, .int i), (0, .ref b), (1, .ref (o 0)), (2, .ref o2)] [] := by
  obtain ⟨r, Z', S', e7, e8, hr⟩ := q_fair h (xs (i + 1).toNatClampNeg) (xs (i + 2).toNatClampNeg)
  refine g_aload_n C 864 2 dL_law_863 rfl rfl ?_
  refine g_aload_n C 865 1 dL_law_864 rfl rfl ?_
  refine g_iload_n C 866 0 dL_law_865 rfl rfl ?_
  refine g_iconst C 867 (1 : Int32) dL_law_866 rfl rfl ?_
  refine g_iadd C 868 dL_law_867 rfl ?_
  refine g_sld C X 869 h1 dL_law_868 rfl ?_
  refine g_aload_n C 870 1 dL_law_869 rfl rfl ?_
  refine g_iload_n C 871 0 dL_law_870 rfl rfl ?_
  refine g_iconst C 872 (2 : Int32) dL_law_871 rfl rfl ?_
  refine g_iadd C 873 dL_law_872 rfl ?_
  refine g_sld C X 874 h2 dL_law_873 rfl ?_
  refine g_call7 (Z' := Z') C 877 [] [.int r] (ct_X7_fair L o q Z (xs (i + 1).toNatClampNeg) (xs (i + 2).toNatClampNeg) _ e7) kX7_fair kvX7_fair wl_L_99 rfl rfl rfl rfl (Nat.le_of_ble_eq_true rfl) ⟨Nat.le_of_ble_eq_true rfl, Nat.le_of_ble_eq_true rfl⟩ ⟨Nat.le_of_ble_eq_true rfl, Nat.le_of_ble_eq_true rfl⟩ dL_law_874 rfl ?_
  refine g_aload_n C 878 3 dL_law_877 rfl rfl ?_
  refine g_aload_n C 879 1 dL_law_878 rfl rfl ?_
  refine g_iload_n C 880 0 dL_law_879 rfl rfl ?_
  refine g_iconst C 881 (1 : Int32) dL_law_880 rfl rfl ?_
  refine g_iadd C 882 dL_law_881 rfl ?_
  refine g_sld C X 883 h1 dL_law_882 rfl ?_
  refine g_aload_n C 884 1 dL_law_883 rfl rfl ?_
  refine g_iload_n C 885 0 dL_law_884 rfl rfl ?_
  refine g_iconst C 886 (2 : Int32) dL_law_885 rfl rfl ?_
  refine g_iadd C 887 dL_law_886 rfl ?_
  refine g_sld C X 888 h2 dL_law_887 rfl ?_
  refine g_call8 (S' := S') C 891 [.int r] [.int r, .int r] (ct_X8_fair L o2 u S (xs (i + 1).toNatClampNeg) (xs (i + 2).toNatClampNeg) _ e8) kX8_fair kvX8_fair wl_L_102 rfl rfl rfl rfl (Nat.le_of_ble_eq_true rfl) ⟨Nat.le_of_ble_eq_true rfl, Nat.le_of_ble_eq_true rfl⟩ ⟨Nat.le_of_ble_eq_true rfl, Nat.le_of_ble_eq_true rfl⟩ dL_law_888 rfl ?_
  exact g_icmp_eq C 1592 894 dL_law_891 (by decide) rfl (fun _ => kk Z' S' hr) (fun c => absurd rfl c)
set_option maxHeartbeats 4000000 in
set_option maxRecDepth 100000 in
theorem lw_c21 {L : LL} {Γ : GC} {o : Nat → Nat} {q : Nat → Nat → Nat} {o2 : Nat} {u : Nat → Nat} {Z : Nat → OS} {S : OS} {b N : Nat} {xs : Nat → Int32} {i : Int32} (C : Cx L Γ cL_law RL (rmk 12 48 1334 478)) (X : Xs Γ b N xs) (h : Rel Z S) (h1 : vp_in (i + 1) N) (h2 : vp_in (i + 2) N) (h3 : vp_in (i + 3) N) (h4 : vp_in (i + 4) N) (kk : ∀ (Z' : Nat → OS) (S' : OS), Rel Z' S' → G L Γ 48 1334 (cells7 L o q Z' ++ cells8 L o2 u S') 1592 [(3, .int i), (0, .ref b), (1, .ref (o 0)), (2, .ref o2)] []) : G L Γ 48 1334 (cells7 L o q Z ++ cells8 L o2 u S) 896 [(3, .int i), (0, .ref b), (1, .ref (o 0)), (2, .ref o2)] [] := by
  obtain ⟨r, Z', S', e7, e8, hr⟩ := q_moped h (xs (i + 1).toNatClampNeg) (xs (i + 2).toNatClampNeg)
  refine g_aload_n C 897 2 dL_law_896 rfl rfl ?_
  refine g_aload_n C 898 1 dL_law_897 rfl rfl ?_
  refine g_iload_n C 899 0 dL_law_898 rfl rfl ?_
  refine g_iconst C 900 (1 : Int32) dL_law_899 rfl rfl ?_
  refine g_iadd C 901 dL_law_900 rfl ?_
  refine g_sld C X 902 h1 dL_law_901 rfl ?_
  refine g_aload_n C 903 1 dL_law_902 rfl rfl ?_
  refine g_iload_n C 904 0 dL_law_903 rfl rfl ?_
  refine g_iconst C 905 (2 : Int32) dL_law_904 rfl rfl ?_
  refine g_iadd C 906 dL_law_905 rfl ?_
  refine g_sld C X 907 h2 dL_law_906 rfl ?_
  refine g_call7 (Z' := Z') C 910 [] [.int r] (ct_X7_moped L o q Z (xs (i + 1).toNatClampNeg) (xs (i + 2).toNatClampNeg) _ e7) kX7_moped kvX7_moped wl_L_103 rfl rfl rfl rfl (Nat.le_of_ble_eq_true rfl) ⟨Nat.le_of_ble_eq_true rfl, Nat.le_of_ble_eq_true rfl⟩ ⟨Nat.le_of_ble_eq_true rfl, Nat.le_of_ble_eq_true rfl⟩ dL_law_907 rfl ?_
  refine g_aload_n C 911 3 dL_law_910 rfl rfl ?_
  refine g_aload_n C 912 1 dL_law_911 rfl rfl ?_
  refine g_iload_n C 913 0 dL_law_912 rfl rfl ?_
  refine g_iconst C 914 (1 : Int32) dL_law_913 rfl rfl ?_
  refine g_iadd C 915 dL_law_914 rfl ?_
  refine g_sld C X 916 h1 dL_law_915 rfl ?_
  refine g_aload_n C 917 1 dL_law_916 rfl rfl ?_
  refine g_iload_n C 918 0 dL_law_917 rfl rfl ?_
  refine g_iconst C 919 (2 : Int32) dL_law_918 rfl rfl ?_
  refine g_iadd C 920 dL_law_919 rfl ?_
  refine g_sld C X 921 h2 dL_law_920 rfl ?_
  refine g_call8 (S' := S') C 924 [.int r] [.int r, .int r] (ct_X8_moped L o2 u S (xs (i + 1).toNatClampNeg) (xs (i + 2).toNatClampNeg) _ e8) kX8_moped kvX8_moped wl_L_106 rfl rfl rfl rfl (Nat.le_of_ble_eq_true rfl) ⟨Nat.le_of_ble_eq_true rfl, Nat.le_of_ble_eq_true rfl⟩ ⟨Nat.le_of_ble_eq_true rfl, Nat.le_of_ble_eq_true rfl⟩ dL_law_921 rfl ?_
  exact g_icmp_eq C 1592 927 dL_law_924 (by decide) rfl (fun _ => kk Z' S' hr) (fun c => absurd rfl c)
set_option maxHeartbeats 4000000 in
set_option maxRecDepth 100000 in
theorem lw_c22 {L : LL} {Γ : GC} {o : Nat → Nat} {q : Nat → Nat → Nat} {o2 : Nat} {u : Nat → Nat} {Z : Nat → OS} {S : OS} {b N : Nat} {xs : Nat → Int32} {i : Int32} (C : Cx L Γ cL_law RL (rmk 12 48 1334 478)) (X : Xs Γ b N xs) (h : Rel Z S) (h1 : vp_in (i + 1) N) (h2 : vp_in (i + 2) N) (h3 : vp_in (i + 3) N) (h4 : vp_in (i + 4) N) (kk : ∀ (Z' : Nat → OS) (S' : OS), Rel Z' S' → G L Γ 48 1334 (cells7 L o q Z' ++ cells8 L o2 u S') 1592 [(3, .int i), (0, .ref b), (1, .ref (o 0)), (2, .ref o2)] []) : G L Γ 48 1334 (cells7 L o q Z ++ cells8 L o2 u S) 929 [(3, .int i), (0, .ref b), (1, .ref (o 0)), (2, .ref o2)] [] := by
  obtain ⟨r, Z', S', e7, e8, hr⟩ := q_made h (xs (i + 1).toNatClampNeg) (xs (i + 2).toNatClampNeg) (xs (i + 3).toNatClampNeg)
  refine g_aload_n C 930 2 dL_law_929 rfl rfl ?_
  refine g_aload_n C 931 1 dL_law_930 rfl rfl ?_
  refine g_iload_n C 932 0 dL_law_931 rfl rfl ?_
  refine g_iconst C 933 (1 : Int32) dL_law_932 rfl rfl ?_
  refine g_iadd C 934 dL_law_933 rfl ?_
  refine g_sld C X 935 h1 dL_law_934 rfl ?_
  refine g_aload_n C 936 1 dL_law_935 rfl rfl ?_
  refine g_iload_n C 937 0 dL_law_936 rfl rfl ?_
  refine g_iconst C 938 (2 : Int32) dL_law_937 rfl rfl ?_
  refine g_iadd C 939 dL_law_938 rfl ?_
  refine g_sld C X 940 h2 dL_law_939 rfl ?_
  refine g_aload_n C 941 1 dL_law_940 rfl rfl ?_
  refine g_iload_n C 942 0 dL_law_941 rfl rfl ?_
  refine g_iconst C 943 (3 : Int32) dL_law_942 rfl rfl ?_
  refine g_iadd C 944 dL_law_943 rfl ?_
  refine g_sld C X 945 h3 dL_law_944 rfl ?_
  refine g_call7 (Z' := Z') C 948 [] [.int r] (ct_X7_made L o q Z (xs (i + 1).toNatClampNeg) (xs (i + 2).toNatClampNeg) (xs (i + 3).toNatClampNeg) _ e7) kX7_made kvX7_made wl_L_107 rfl rfl rfl rfl (Nat.le_of_ble_eq_true rfl) ⟨Nat.le_of_ble_eq_true rfl, Nat.le_of_ble_eq_true rfl⟩ ⟨Nat.le_of_ble_eq_true rfl, Nat.le_of_ble_eq_true rfl⟩ dL_law_945 rfl ?_
  refine g_aload_n C 949 3 dL_law_948 rfl rfl ?_
  refine g_aload_n C 950 1 dL_law_949 rfl rfl ?_
  refine g_iload_n C 951 0 dL_law_950 rfl rfl ?_
  refine g_iconst C 952 (1 : Int32) dL_law_951 rfl rfl ?_
  refine g_iadd C 953 dL_law_952 rfl ?_
  refine g_sld C X 954 h1 dL_law_953 rfl ?_
  refine g_aload_n C 955 1 dL_law_954 rfl rfl ?_
  refine g_iload_n C 956 0 dL_law_955 rfl rfl ?_
  refine g_iconst C 957 (2 : Int32) dL_law_956 rfl rfl ?_
  refine g_iadd C 958 dL_law_957 rfl ?_
  refine g_sld C X 959 h2 dL_law_958 rfl ?_
  refine g_aload_n C 960 1 dL_law_959 rfl rfl ?_
  refine g_iload_n C 961 0 dL_law_960 rfl rfl ?_
  refine g_iconst C 962 (3 : Int32) dL_law_961 rfl rfl ?_
  refine g_iadd C 963 dL_law_962 rfl ?_
  refine g_sld C X 964 h3 dL_law_963 rfl ?_
  refine g_call8 (S' := S') C 967 [.int r] [.int r, .int r] (ct_X8_made L o2 u S (xs (i + 1).toNatClampNeg) (xs (i + 2).toNatClampNeg) (xs (i + 3).toNatClampNeg) _ e8) kX8_made kvX8_made wl_L_110 rfl rfl rfl rfl (Nat.le_of_ble_eq_true rfl) ⟨Nat.le_of_ble_eq_true rfl, Nat.le_of_ble_eq_true rfl⟩ ⟨Nat.le_of_ble_eq_true rfl, Nat.le_of_ble_eq_true rfl⟩ dL_law_964 rfl ?_
  exact g_icmp_eq C 1592 970 dL_law_967 (by decide) rfl (fun _ => kk Z' S' hr) (fun c => absurd rfl c)
set_option maxHeartbeats 4000000 in
set_option maxRecDepth 100000 in
theorem lw_c23 {L : LL} {Γ : GC} {o : Nat → Nat} {q : Nat → Nat → Nat} {o2 : Nat} {u : Nat → Nat} {Z : Nat → OS} {S : OS} {b N : Nat} {xs : Nat → Int32} {i : Int32} (C : Cx L Γ cL_law RL (rmk 12 48 1334 478)) (X : Xs Γ b N xs) (h : Rel Z S) (h1 : vp_in (i + 1) N) (h2 : vp_in (i + 2) N) (h3 : vp_in (i + 3) N) (h4 : vp_in (i + 4) N) (kk : ∀ (Z' : Nat → OS) (S' : OS), Rel Z' S' → G L Γ 48 1334 (cells7 L o q Z' ++ cells8 L o2 u S') 1592 [(3, .int i), (0, .ref b), (1, .ref (o 0)), (2, .ref o2)] []) : G L Γ 48 1334 (cells7 L o q Z ++ cells8 L o2 u S) 972 [(3, .int i), (0, .ref b), (1, .ref (o 0)), (2, .ref o2)] [] := by
  obtain ⟨r, e7, e8⟩ := q_unlike h
  refine g_aload_n C 973 2 dL_law_972 rfl rfl ?_
  refine g_call7 (Z' := Z) C 976 [] [.int r] (ct_X7_unlike L o q Z _ e7) kX7_unlike kvX7_unlike wl_L_111 rfl rfl rfl rfl (Nat.le_of_ble_eq_true rfl) ⟨Nat.le_of_ble_eq_true rfl, Nat.le_of_ble_eq_true rfl⟩ ⟨Nat.le_of_ble_eq_true rfl, Nat.le_of_ble_eq_true rfl⟩ dL_law_973 rfl ?_
  refine g_aload_n C 977 3 dL_law_976 rfl rfl ?_
  refine g_call8 (S' := S) C 980 [.int r] [.int r, .int r] (ct_X8_unlike L o2 u S _ e8) kX8_unlike kvX8_unlike wl_L_114 rfl rfl rfl rfl (Nat.le_of_ble_eq_true rfl) ⟨Nat.le_of_ble_eq_true rfl, Nat.le_of_ble_eq_true rfl⟩ ⟨Nat.le_of_ble_eq_true rfl, Nat.le_of_ble_eq_true rfl⟩ dL_law_977 rfl ?_
  exact g_icmp_eq C 1592 983 dL_law_980 (by decide) rfl (fun _ => kk Z S h) (fun c => absurd rfl c)
set_option maxHeartbeats 4000000 in
set_option maxRecDepth 100000 in
theorem lw_c24 {L : LL} {Γ : GC} {o : Nat → Nat} {q : Nat → Nat → Nat} {o2 : Nat} {u : Nat → Nat} {Z : Nat → OS} {S : OS} {b N : Nat} {xs : Nat → Int32} {i : Int32} (C : Cx L Γ cL_law RL (rmk 12 48 1334 478)) (X : Xs Γ b N xs) (h : Rel Z S) (h1 : vp_in (i + 1) N) (h2 : vp_in (i + 2) N) (h3 : vp_in (i + 3) N) (h4 : vp_in (i + 4) N) (kk : ∀ (Z' : Nat → OS) (S' : OS), Rel Z' S' → G L Γ 48 1334 (cells7 L o q Z' ++ cells8 L o2 u S') 1592 [(3, .int i), (0, .ref b), (1, .ref (o 0)), (2, .ref o2)] []) : G L Γ 48 1334 (cells7 L o q Z ++ cells8 L o2 u S) 985 [(3, .int i), (0, .ref b), (1, .ref (o 0)), (2, .ref o2)] [] := by
  obtain ⟨r, Z', S', e7, e8, hr⟩ := q_strict h (xs (i + 1).toNatClampNeg) (xs (i + 2).toNatClampNeg)
  refine g_aload_n C 986 2 dL_law_985 rfl rfl ?_
  refine g_aload_n C 987 1 dL_law_986 rfl rfl ?_
  refine g_iload_n C 988 0 dL_law_987 rfl rfl ?_
  refine g_iconst C 989 (1 : Int32) dL_law_988 rfl rfl ?_
  refine g_iadd C 990 dL_law_989 rfl ?_
  refine g_sld C X 991 h1 dL_law_990 rfl ?_
  refine g_aload_n C 992 1 dL_law_991 rfl rfl ?_
  refine g_iload_n C 993 0 dL_law_992 rfl rfl ?_
  refine g_iconst C 994 (2 : Int32) dL_law_993 rfl rfl ?_
  refine g_iadd C 995 dL_law_994 rfl ?_
  refine g_sld C X 996 h2 dL_law_995 rfl ?_
  refine g_call7 (Z' := Z') C 999 [] [.int r] (ct_X7_strict L o q Z (xs (i + 1).toNatClampNeg) (xs (i + 2).toNatClampNeg) _ e7) kX7_strict kvX7_strict wl_L_115 rfl rfl rfl rfl (Nat.le_of_ble_eq_true rfl) ⟨Nat.le_of_ble_eq_true rfl, Nat.le_of_ble_eq_true rfl⟩ ⟨Nat.le_of_ble_eq_true rfl, Nat.le_of_ble_eq_true rfl⟩ dL_law_996 rfl ?_
  refine g_aload_n C 1000 3 dL_law_999 rfl rfl ?_
  refine g_aload_n C 1001 1 dL_law_1000 rfl rfl ?_
  refine g_iload_n C 1002 0 dL_law_1001 rfl rfl ?_
  refine g_iconst C 1003 (1 : Int32) dL_law_1002 rfl rfl ?_
  refine g_iadd C 1004 dL_law_1003 rfl ?_
  refine g_sld C X 1005 h1 dL_law_1004 rfl ?_
  refine g_aload_n C 1006 1 dL_law_1005 rfl rfl ?_
  refine g_iload_n C 1007 0 dL_law_1006 rfl rfl ?_
  refine g_iconst C 1008 (2 : Int32) dL_law_1007 rfl rfl ?_
  refine g_iadd C 1009 dL_law_1008 rfl ?_
  refine g_sld C X 1010 h2 dL_law_1009 rfl ?_
  refine g_call8 (S' := S') C 1013 [.int r] [.int r, .int r] (ct_X8_strict L o2 u S (xs (i + 1).toNatClampNeg) (xs (i + 2).toNatClampNeg) _ e8) kX8_strict kvX8_strict wl_L_118 rfl rfl rfl rfl (Nat.le_of_ble_eq_true rfl) ⟨Nat.le_of_ble_eq_true rfl, Nat.le_of_ble_eq_true rfl⟩ ⟨Nat.le_of_ble_eq_true rfl, Nat.le_of_ble_eq_true rfl⟩ dL_law_1010 rfl ?_
  exact g_icmp_eq C 1592 1016 dL_law_1013 (by decide) rfl (fun _ => kk Z' S' hr) (fun c => absurd rfl c)
set_option maxHeartbeats 4000000 in
set_option maxRecDepth 100000 in
theorem lw_c25 {L : LL} {Γ : GC} {o : Nat → Nat} {q : Nat → Nat → Nat} {o2 : Nat} {u : Nat → Nat} {Z : Nat → OS} {S : OS} {b N : Nat} {xs : Nat → Int32} {i : Int32} (C : Cx L Γ cL_law RL (rmk 12 48 1334 478)) (X : Xs Γ b N xs) (h : Rel Z S) (h1 : vp_in (i + 1) N) (h2 : vp_in (i + 2) N) (h3 : vp_in (i + 3) N) (h4 : vp_in (i + 4) N) (kk : ∀ (Z' : Nat → OS) (S' : OS), Rel Z' S' → G L Γ 48 1334 (cells7 L o q Z' ++ cells8 L o2 u S') 1592 [(3, .int i), (0, .ref b), (1, .ref (o 0)), (2, .ref o2)] []) : G L Γ 48 1334 (cells7 L o q Z ++ cells8 L o2 u S) 1018 [(3, .int i), (0, .ref b), (1, .ref (o 0)), (2, .ref o2)] [] := by
  obtain ⟨r, Z', S', e7, e8, hr⟩ := q_queue h (xs (i + 1).toNatClampNeg) (xs (i + 2).toNatClampNeg)
  refine g_aload_n C 1019 2 dL_law_1018 rfl rfl ?_
  refine g_aload_n C 1020 1 dL_law_1019 rfl rfl ?_
  refine g_iload_n C 1021 0 dL_law_1020 rfl rfl ?_
  refine g_iconst C 1022 (1 : Int32) dL_law_1021 rfl rfl ?_
  refine g_iadd C 1023 dL_law_1022 rfl ?_
  refine g_sld C X 1024 h1 dL_law_1023 rfl ?_
  refine g_aload_n C 1025 1 dL_law_1024 rfl rfl ?_
  refine g_iload_n C 1026 0 dL_law_1025 rfl rfl ?_
  refine g_iconst C 1027 (2 : Int32) dL_law_1026 rfl rfl ?_
  refine g_iadd C 1028 dL_law_1027 rfl ?_
  refine g_sld C X 1029 h2 dL_law_1028 rfl ?_
  refine g_call7 (Z' := Z') C 1032 [] [.int r] (ct_X7_queue L o q Z (xs (i + 1).toNatClampNeg) (xs (i + 2).toNatClampNeg) _ e7) kX7_queue kvX7_queue wl_L_119 rfl rfl rfl rfl (Nat.le_of_ble_eq_true rfl) ⟨Nat.le_of_ble_eq_true rfl, Nat.le_of_ble_eq_true rfl⟩ ⟨Nat.le_of_ble_eq_true rfl, Nat.le_of_ble_eq_true rfl⟩ dL_law_1029 rfl ?_
  refine g_aload_n C 1033 3 dL_law_1032 rfl rfl ?_
  refine g_aload_n C 1034 1 dL_law_1033 rfl rfl ?_
  refine g_iload_n C 1035 0 dL_law_1034 rfl rfl ?_
  refine g_iconst C 1036 (1 : Int32) dL_law_1035 rfl rfl ?_
  refine g_iadd C 1037 dL_law_1036 rfl ?_
  refine g_sld C X 1038 h1 dL_law_1037 rfl ?_
  refine g_aload_n C 1039 1 dL_law_1038 rfl rfl ?_
  refine g_iload_n C 1040 0 dL_law_1039 rfl rfl ?_
  refine g_iconst C 1041 (2 : Int32) dL_law_1040 rfl rfl ?_
  refine g_iadd C 1042 dL_law_1041 rfl ?_
  refine g_sld C X 1043 h2 dL_law_1042 rfl ?_
  refine g_call8 (S' := S') C 1046 [.int r] [.int r, .int r] (ct_X8_queue L o2 u S (xs (i + 1).toNatClampNeg) (xs (i + 2).toNatClampNeg) _ e8) kX8_queue kvX8_queue wl_L_122 rfl rfl rfl rfl (Nat.le_of_ble_eq_true rfl) ⟨Nat.le_of_ble_eq_true rfl, Nat.le_of_ble_eq_true rfl⟩ ⟨Nat.le_of_ble_eq_true rfl, Nat.le_of_ble_eq_true rfl⟩ dL_law_1043 rfl ?_
  exact g_icmp_eq C 1592 1049 dL_law_1046 (by decide) rfl (fun _ => kk Z' S' hr) (fun c => absurd rfl c)
set_option maxHeartbeats 4000000 in
set_option maxRecDepth 100000 in
theorem lw_c26 {L : LL} {Γ : GC} {o : Nat → Nat} {q : Nat → Nat → Nat} {o2 : Nat} {u : Nat → Nat} {Z : Nat → OS} {S : OS} {b N : Nat} {xs : Nat → Int32} {i : Int32} (C : Cx L Γ cL_law RL (rmk 12 48 1334 478)) (X : Xs Γ b N xs) (h : Rel Z S) (h1 : vp_in (i + 1) N) (h2 : vp_in (i + 2) N) (h3 : vp_in (i + 3) N) (h4 : vp_in (i + 4) N) (kk : ∀ (Z' : Nat → OS) (S' : OS), Rel Z' S' → G L Γ 48 1334 (cells7 L o q Z' ++ cells8 L o2 u S') 1592 [(3, .int i), (0, .ref b), (1, .ref (o 0)), (2, .ref o2)] []) : G L Γ 48 1334 (cells7 L o q Z ++ cells8 L o2 u S) 1051 [(3, .int i), (0, .ref b), (1, .ref (o 0)), (2, .ref o2)] [] := by
  obtain ⟨r, Z', S', e7, e8, hr⟩ := q_lessons h (xs (i + 1).toNatClampNeg) (xs (i + 2).toNatClampNeg) (xs (i + 3).toNatClampNeg)
  refine g_aload_n C 1052 2 dL_law_1051 rfl rfl ?_
  refine g_aload_n C 1053 1 dL_law_1052 rfl rfl ?_
  refine g_iload_n C 1054 0 dL_law_1053 rfl rfl ?_
  refine g_iconst C 1055 (1 : Int32) dL_law_1054 rfl rfl ?_
  refine g_iadd C 1056 dL_law_1055 rfl ?_
  refine g_sld C X 1057 h1 dL_law_1056 rfl ?_
  refine g_aload_n C 1058 1 dL_law_1057 rfl rfl ?_
  refine g_iload_n C 1059 0 dL_law_1058 rfl rfl ?_
  refine g_iconst C 1060 (2 : Int32) dL_law_1059 rfl rfl ?_
  refine g_iadd C 1061 dL_law_1060 rfl ?_
  refine g_sld C X 1062 h2 dL_law_1061 rfl ?_
  refine g_aload_n C 1063 1 dL_law_1062 rfl rfl ?_
  refine g_iload_n C 1064 0 dL_law_1063 rfl rfl ?_
  refine g_iconst C 1065 (3 : Int32) dL_law_1064 rfl rfl ?_
  refine g_iadd C 1066 dL_law_1065 rfl ?_
  refine g_sld C X 1067 h3 dL_law_1066 rfl ?_
  refine g_call7 (Z' := Z') C 1070 [] [.int r] (ct_X7_lessons L o q Z (xs (i + 1).toNatClampNeg) (xs (i + 2).toNatClampNeg) (xs (i + 3).toNatClampNeg) _ e7) kX7_lessons kvX7_lessons wl_L_123 rfl rfl rfl rfl (Nat.le_of_ble_eq_true rfl) ⟨Nat.le_of_ble_eq_true rfl, Nat.le_of_ble_eq_true rfl⟩ ⟨Nat.le_of_ble_eq_true rfl, Nat.le_of_ble_eq_true rfl⟩ dL_law_1067 rfl ?_
  refine g_aload_n C 1071 3 dL_law_1070 rfl rfl ?_
  refine g_aload_n C 1072 1 dL_law_1071 rfl rfl ?_
  refine g_iload_n C 1073 0 dL_law_1072 rfl rfl ?_
  refine g_iconst C 1074 (1 : Int32) dL_law_1073 rfl rfl ?_
  refine g_iadd C 1075 dL_law_1074 rfl ?_
  refine g_sld C X 1076 h1 dL_law_1075 rfl ?_
  refine g_aload_n C 1077 1 dL_law_1076 rfl rfl ?_
  refine g_iload_n C 1078 0 dL_law_1077 rfl rfl ?_
  refine g_iconst C 1079 (2 : Int32) dL_law_1078 rfl rfl ?_
  refine g_iadd C 1080 dL_law_1079 rfl ?_
  refine g_sld C X 1081 h2 dL_law_1080 rfl ?_
  refine g_aload_n C 1082 1 dL_law_1081 rfl rfl ?_
  refine g_iload_n C 1083 0 dL_law_1082 rfl rfl ?_
  refine g_iconst C 1084 (3 : Int32) dL_law_1083 rfl rfl ?_
  refine g_iadd C 1085 dL_law_1084 rfl ?_
  refine g_sld C X 1086 h3 dL_law_1085 rfl ?_
  refine g_call8 (S' := S') C 1089 [.int r] [.int r, .int r] (ct_X8_lessons L o2 u S (xs (i + 1).toNatClampNeg) (xs (i + 2).toNatClampNeg) (xs (i + 3).toNatClampNeg) _ e8) kX8_lessons kvX8_lessons wl_L_126 rfl rfl rfl rfl (Nat.le_of_ble_eq_true rfl) ⟨Nat.le_of_ble_eq_true rfl, Nat.le_of_ble_eq_true rfl⟩ ⟨Nat.le_of_ble_eq_true rfl, Nat.le_of_ble_eq_true rfl⟩ dL_law_1086 rfl ?_
  exact g_icmp_eq C 1592 1092 dL_law_1089 (by decide) rfl (fun _ => kk Z' S' hr) (fun c => absurd rfl c)
set_option maxHeartbeats 4000000 in
set_option maxRecDepth 100000 in
theorem lw_c27 {L : LL} {Γ : GC} {o : Nat → Nat} {q : Nat → Nat → Nat} {o2 : Nat} {u : Nat → Nat} {Z : Nat → OS} {S : OS} {b N : Nat} {xs : Nat → Int32} {i : Int32} (C : Cx L Γ cL_law RL (rmk 12 48 1334 478)) (X : Xs Γ b N xs) (h : Rel Z S) (h1 : vp_in (i + 1) N) (h2 : vp_in (i + 2) N) (h3 : vp_in (i + 3) N) (h4 : vp_in (i + 4) N) (kk : ∀ (Z' : Nat → OS) (S' : OS), Rel Z' S' → G L Γ 48 1334 (cells7 L o q Z' ++ cells8 L o2 u S') 1592 [(3, .int i), (0, .ref b), (1, .ref (o 0)), (2, .ref o2)] []) : G L Γ 48 1334 (cells7 L o q Z ++ cells8 L o2 u S) 1094 [(3, .int i), (0, .ref b), (1, .ref (o 0)), (2, .ref o2)] [] := by
  obtain ⟨r, Z', S', e7, e8, hr⟩ := q_ball h (xs (i + 1).toNatClampNeg) (xs (i + 2).toNatClampNeg) (xs (i + 3).toNatClampNeg) (xs (i + 4).toNatClampNeg)
  refine g_aload_n C 1095 2 dL_law_1094 rfl rfl ?_
  refine g_aload_n C 1096 1 dL_law_1095 rfl rfl ?_
  refine g_iload_n C 1097 0 dL_law_1096 rfl rfl ?_
  refine g_iconst C 1098 (1 : Int32) dL_law_1097 rfl rfl ?_
  refine g_iadd C 1099 dL_law_1098 rfl ?_
  refine g_sld C X 1100 h1 dL_law_1099 rfl ?_
  refine g_aload_n C 1101 1 dL_law_1100 rfl rfl ?_
  refine g_iload_n C 1102 0 dL_law_1101 rfl rfl ?_
  refine g_iconst C 1103 (2 : Int32) dL_law_1102 rfl rfl ?_
  refine g_iadd C 1104 dL_law_1103 rfl ?_
  refine g_sld C X 1105 h2 dL_law_1104 rfl ?_
  refine g_aload_n C 1106 1 dL_law_1105 rfl rfl ?_
  refine g_iload_n C 1107 0 dL_law_1106 rfl rfl ?_
  refine g_iconst C 1108 (3 : Int32) dL_law_1107 rfl rfl ?_
  refine g_iadd C 1109 dL_law_1108 rfl ?_
  refine g_sld C X 1110 h3 dL_law_1109 rfl ?_
  refine g_aload_n C 1111 1 dL_law_1110 rfl rfl ?_
  refine g_iload_n C 1112 0 dL_law_1111 rfl rfl ?_
  refine g_iconst C 1113 (4 : Int32) dL_law_1112 rfl rfl ?_
  refine g_iadd C 1114 dL_law_1113 rfl ?_
  refine g_sld C X 1115 h4 dL_law_1114 rfl ?_
  refine g_call7 (Z' := Z') C 1118 [] [.long r] (ct_X7_ball L o q Z (xs (i + 1).toNatClampNeg) (xs (i + 2).toNatClampNeg) (xs (i + 3).toNatClampNeg) (xs (i + 4).toNatClampNeg) _ e7) kX7_ball kvX7_ball wl_L_127 rfl rfl rfl rfl (Nat.le_of_ble_eq_true rfl) ⟨Nat.le_of_ble_eq_true rfl, Nat.le_of_ble_eq_true rfl⟩ ⟨Nat.le_of_ble_eq_true rfl, Nat.le_of_ble_eq_true rfl⟩ dL_law_1115 rfl ?_
  refine g_aload_n C 1119 3 dL_law_1118 rfl rfl ?_
  refine g_aload_n C 1120 1 dL_law_1119 rfl rfl ?_
  refine g_iload_n C 1121 0 dL_law_1120 rfl rfl ?_
  refine g_iconst C 1122 (1 : Int32) dL_law_1121 rfl rfl ?_
  refine g_iadd C 1123 dL_law_1122 rfl ?_
  refine g_sld C X 1124 h1 dL_law_1123 rfl ?_
  refine g_aload_n C 1125 1 dL_law_1124 rfl rfl ?_
  refine g_iload_n C 1126 0 dL_law_1125 rfl rfl ?_
  refine g_iconst C 1127 (2 : Int32) dL_law_1126 rfl rfl ?_
  refine g_iadd C 1128 dL_law_1127 rfl ?_
  refine g_sld C X 1129 h2 dL_law_1128 rfl ?_
  refine g_aload_n C 1130 1 dL_law_1129 rfl rfl ?_
  refine g_iload_n C 1131 0 dL_law_1130 rfl rfl ?_
  refine g_iconst C 1132 (3 : Int32) dL_law_1131 rfl rfl ?_
  refine g_iadd C 1133 dL_law_1132 rfl ?_
  refine g_sld C X 1134 h3 dL_law_1133 rfl ?_
  refine g_aload_n C 1135 1 dL_law_1134 rfl rfl ?_
  refine g_iload_n C 1136 0 dL_law_1135 rfl rfl ?_
  refine g_iconst C 1137 (4 : Int32) dL_law_1136 rfl rfl ?_
  refine g_iadd C 1138 dL_law_1137 rfl ?_
  refine g_sld C X 1139 h4 dL_law_1138 rfl ?_
  refine g_call8 (S' := S') C 1142 [.long r] [.long r, .long r] (ct_X8_ball L o2 u S (xs (i + 1).toNatClampNeg) (xs (i + 2).toNatClampNeg) (xs (i + 3).toNatClampNeg) (xs (i + 4).toNatClampNeg) _ e8) kX8_ball kvX8_ball wl_L_131 rfl rfl rfl rfl (Nat.le_of_ble_eq_true rfl) ⟨Nat.le_of_ble_eq_true rfl, Nat.le_of_ble_eq_true rfl⟩ ⟨Nat.le_of_ble_eq_true rfl, Nat.le_of_ble_eq_true rfl⟩ dL_law_1139 rfl ?_
  refine g_lcmp C 1143 dL_law_1142 rfl ?_
  exact g_if_eq C 1592 1146 dL_law_1143 (by decide) rfl (fun _ => kk Z' S' hr) (fun c => absurd (lg_cmp_self r) c)
set_option maxHeartbeats 4000000 in
set_option maxRecDepth 100000 in
theorem lw_c28 {L : LL} {Γ : GC} {o : Nat → Nat} {q : Nat → Nat → Nat} {o2 : Nat} {u : Nat → Nat} {Z : Nat → OS} {S : OS} {b N : Nat} {xs : Nat → Int32} {i : Int32} (C : Cx L Γ cL_law RL (rmk 12 48 1334 478)) (X : Xs Γ b N xs) (h : Rel Z S) (h1 : vp_in (i + 1) N) (h2 : vp_in (i + 2) N) (h3 : vp_in (i + 3) N) (h4 : vp_in (i + 4) N) (kk : ∀ (Z' : Nat → OS) (S' : OS), Rel Z' S' → G L Γ 48 1334 (cells7 L o q Z' ++ cells8 L o2 u S') 1592 [(3, .int i), (0, .ref b), (1, .ref (o 0)), (2, .ref o2)] []) : G L Γ 48 1334 (cells7 L o q Z ++ cells8 L o2 u S) 1148 [(3, .int i), (0, .ref b), (1, .ref (o 0)), (2, .ref o2)] [] := by
  obtain ⟨r, Z', S', e7, e8, hr⟩ := q_crowded h (xs (i + 1).toNatClampNeg)
  refine g_aload_n C 1149 2 dL_law_1148 rfl rfl ?_
  refine g_aload_n C 1150 1 dL_law_1149 rfl rfl ?_
  refine g_iload_n C 1151 0 dL_law_1150 rfl rfl ?_
  refine g_iconst C 1152 (1 : Int32) dL_law_1151 rfl rfl ?_
  refine g_iadd C 1153 dL_law_1152 rfl ?_
  refine g_sld C X 1154 h1 dL_law_1153 rfl ?_
  refine g_call7 (Z' := Z') C 1157 [] [.int r] (ct_X7_crowded L o q Z (xs (i + 1).toNatClampNeg) _ e7) kX7_crowded kvX7_crowded wl_L_132 rfl rfl rfl rfl (Nat.le_of_ble_eq_true rfl) ⟨Nat.le_of_ble_eq_true rfl, Nat.le_of_ble_eq_true rfl⟩ ⟨Nat.le_of_ble_eq_true rfl, Nat.le_of_ble_eq_true rfl⟩ dL_law_1154 rfl ?_
  refine g_aload_n C 1158 3 dL_law_1157 rfl rfl ?_
  refine g_aload_n C 1159 1 dL_law_1158 rfl rfl ?_
  refine g_iload_n C 1160 0 dL_law_1159 rfl rfl ?_
  refine g_iconst C 1161 (1 : Int32) dL_law_1160 rfl rfl ?_
  refine g_iadd C 1162 dL_law_1161 rfl ?_
  refine g_sld C X 1163 h1 dL_law_1162 rfl ?_
  refine g_call8 (S' := S') C 1166 [.int r] [.int r, .int r] (ct_X8_crowded L o2 u S (xs (i + 1).toNatClampNeg) _ e8) kX8_crowded kvX8_crowded wl_L_135 rfl rfl rfl rfl (Nat.le_of_ble_eq_true rfl) ⟨Nat.le_of_ble_eq_true rfl, Nat.le_of_ble_eq_true rfl⟩ ⟨Nat.le_of_ble_eq_true rfl, Nat.le_of_ble_eq_true rfl⟩ dL_law_1163 rfl ?_
  exact g_icmp_eq C 1592 1169 dL_law_1166 (by decide) rfl (fun _ => kk Z' S' hr) (fun c => absurd rfl c)
set_option maxHeartbeats 4000000 in
set_option maxRecDepth 100000 in
theorem lw_c29 {L : LL} {Γ : GC} {o : Nat → Nat} {q : Nat → Nat → Nat} {o2 : Nat} {u : Nat → Nat} {Z : Nat → OS} {S : OS} {b N : Nat} {xs : Nat → Int32} {i : Int32} (C : Cx L Γ cL_law RL (rmk 12 48 1334 478)) (X : Xs Γ b N xs) (h : Rel Z S) (h1 : vp_in (i + 1) N) (h2 : vp_in (i + 2) N) (h3 : vp_in (i + 3) N) (h4 : vp_in (i + 4) N) (kk : ∀ (Z' : Nat → OS) (S' : OS), Rel Z' S' → G L Γ 48 1334 (cells7 L o q Z' ++ cells8 L o2 u S') 1592 [(3, .int i), (0, .ref b), (1, .ref (o 0)), (2, .ref o2)] []) : G L Γ 48 1334 (cells7 L o q Z ++ cells8 L o2 u S) 1171 [(3, .int i), (0, .ref b), (1, .ref (o 0)), (2, .ref o2)] [] := by
  obtain ⟨r, Z', S', e7, e8, hr⟩ := q_rank h (xs (i + 1).toNatClampNeg) (xs (i + 2).toNatClampNeg)
  refine g_aload_n C 1172 2 dL_law_1171 rfl rfl ?_
  refine g_aload_n C 1173 1 dL_law_1172 rfl rfl ?_
  refine g_iload_n C 1174 0 dL_law_1173 rfl rfl ?_
  refine g_iconst C 1175 (1 : Int32) dL_law_1174 rfl rfl ?_
  refine g_iadd C 1176 dL_law_1175 rfl ?_
  refine g_sld C X 1177 h1 dL_law_1176 rfl ?_
  refine g_aload_n C 1178 1 dL_law_1177 rfl rfl ?_
  refine g_iload_n C 1179 0 dL_law_1178 rfl rfl ?_
  refine g_iconst C 1180 (2 : Int32) dL_law_1179 rfl rfl ?_
  refine g_iadd C 1181 dL_law_1180 rfl ?_
  refine g_sld C X 1182 h2 dL_law_1181 rfl ?_
  refine g_call7 (Z' := Z') C 1185 [] [.int r] (ct_X7_rank L o q Z (xs (i + 1).toNatClampNeg) (xs (i + 2).toNatClampNeg) _ e7) kX7_rank kvX7_rank wl_L_136 rfl rfl rfl rfl (Nat.le_of_ble_eq_true rfl) ⟨Nat.le_of_ble_eq_true rfl, Nat.le_of_ble_eq_true rfl⟩ ⟨Nat.le_of_ble_eq_true rfl, Nat.le_of_ble_eq_true rfl⟩ dL_law_1182 rfl ?_
  refine g_aload_n C 1186 3 dL_law_1185 rfl rfl ?_
  refine g_aload_n C 1187 1 dL_law_1186 rfl rfl ?_
  refine g_iload_n C 1188 0 dL_law_1187 rfl rfl ?_
  refine g_iconst C 1189 (1 : Int32) dL_law_1188 rfl rfl ?_
  refine g_iadd C 1190 dL_law_1189 rfl ?_
  refine g_sld C X 1191 h1 dL_law_1190 rfl ?_
  refine g_aload_n C 1192 1 dL_law_1191 rfl rfl ?_
  refine g_iload_n C 1193 0 dL_law_1192 rfl rfl ?_
  refine g_iconst C 1194 (2 : Int32) dL_law_1193 rfl rfl ?_
  refine g_iadd C 1195 dL_law_1194 rfl ?_
  refine g_sld C X 1196 h2 dL_law_1195 rfl ?_
  refine g_call8 (S' := S') C 1199 [.int r] [.int r, .int r] (ct_X8_rank L o2 u S (xs (i + 1).toNatClampNeg) (xs (i + 2).toNatClampNeg) _ e8) kX8_rank kvX8_rank wl_L_139 rfl rfl rfl rfl (Nat.le_of_ble_eq_true rfl) ⟨Nat.le_of_ble_eq_true rfl, Nat.le_of_ble_eq_true rfl⟩ ⟨Nat.le_of_ble_eq_true rfl, Nat.le_of_ble_eq_true rfl⟩ dL_law_1196 rfl ?_
  exact g_icmp_eq C 1592 1202 dL_law_1199 (by decide) rfl (fun _ => kk Z' S' hr) (fun c => absurd rfl c)
set_option maxHeartbeats 4000000 in
set_option maxRecDepth 100000 in
theorem lw_c30 {L : LL} {Γ : GC} {o : Nat → Nat} {q : Nat → Nat → Nat} {o2 : Nat} {u : Nat → Nat} {Z : Nat → OS} {S : OS} {b N : Nat} {xs : Nat → Int32} {i : Int32} (C : Cx L Γ cL_law RL (rmk 12 48 1334 478)) (X : Xs Γ b N xs) (h : Rel Z S) (h1 : vp_in (i + 1) N) (h2 : vp_in (i + 2) N) (h3 : vp_in (i + 3) N) (h4 : vp_in (i + 4) N) (kk : ∀ (Z' : Nat → OS) (S' : OS), Rel Z' S' → G L Γ 48 1334 (cells7 L o q Z' ++ cells8 L o2 u S') 1592 [(3, .int i), (0, .ref b), (1, .ref (o 0)), (2, .ref o2)] []) : G L Γ 48 1334 (cells7 L o q Z ++ cells8 L o2 u S) 1204 [(3, .int i), (0, .ref b), (1, .ref (o 0)), (2, .ref o2)] [] := by
  obtain ⟨r, Z', S', e7, e8, hr⟩ := q_skillWanted h (xs (i + 1).toNatClampNeg) (xs (i + 2).toNatClampNeg) (xs (i + 3).toNatClampNeg)
  refine g_aload_n C 1205 2 dL_law_1204 rfl rfl ?_
  refine g_aload_n C 1206 1 dL_law_1205 rfl rfl ?_
  refine g_iload_n C 1207 0 dL_law_1206 rfl rfl ?_
  refine g_iconst C 1208 (1 : Int32) dL_law_1207 rfl rfl ?_
  refine g_iadd C 1209 dL_law_1208 rfl ?_
  refine g_sld C X 1210 h1 dL_law_1209 rfl ?_
  refine g_aload_n C 1211 1 dL_law_1210 rfl rfl ?_
  refine g_iload_n C 1212 0 dL_law_1211 rfl rfl ?_
  refine g_iconst C 1213 (2 : Int32) dL_law_1212 rfl rfl ?_
  refine g_iadd C 1214 dL_law_1213 rfl ?_
  refine g_sld C X 1215 h2 dL_law_1214 rfl ?_
  refine g_aload_n C 1216 1 dL_law_1215 rfl rfl ?_
  refine g_iload_n C 1217 0 dL_law_1216 rfl rfl ?_
  refine g_iconst C 1218 (3 : Int32) dL_law_1217 rfl rfl ?_
  refine g_iadd C 1219 dL_law_1218 rfl ?_
  refine g_sld C X 1220 h3 dL_law_1219 rfl ?_
  refine g_call7 (Z' := Z') C 1223 [] [.int r] (ct_X7_skillWanted L o q Z (xs (i + 1).toNatClampNeg) (xs (i + 2).toNatClampNeg) (xs (i + 3).toNatClampNeg) _ e7) kX7_skillWanted kvX7_skillWanted wl_L_140 rfl rfl rfl rfl (Nat.le_of_ble_eq_true rfl) ⟨Nat.le_of_ble_eq_true rfl, Nat.le_of_ble_eq_true rfl⟩ ⟨Nat.le_of_ble_eq_true rfl, Nat.le_of_ble_eq_true rfl⟩ dL_law_1220 rfl ?_
  refine g_aload_n C 1224 3 dL_law_1223 rfl rfl ?_
  refine g_aload_n C 1225 1 dL_law_1224 rfl rfl ?_
  refine g_iload_n C 1226 0 dL_law_1225 rfl rfl ?_
  refine g_iconst C 1227 (1 : Int32) dL_law_1226 rfl rfl ?_
  refine g_iadd C 1228 dL_law_1227 rfl ?_
  refine g_sld C X 1229 h1 dL_law_1228 rfl ?_
  refine g_aload_n C 1230 1 dL_law_1229 rfl rfl ?_
  refine g_iload_n C 1231 0 dL_law_1230 rfl rfl ?_
  refine g_iconst C 1232 (2 : Int32) dL_law_1231 rfl rfl ?_
  refine g_iadd C 1233 dL_law_1232 rfl ?_
  refine g_sld C X 1234 h2 dL_law_1233 rfl ?_
  refine g_aload_n C 1235 1 dL_law_1234 rfl rfl ?_
  refine g_iload_n C 1236 0 dL_law_1235 rfl rfl ?_
  refine g_iconst C 1237 (3 : Int32) dL_law_1236 rfl rfl ?_
  refine g_iadd C 1238 dL_law_1237 rfl ?_
  refine g_sld C X 1239 h3 dL_law_1238 rfl ?_
  refine g_call8 (S' := S') C 1242 [.int r] [.int r, .int r] (ct_X8_skillWanted L o2 u S (xs (i + 1).toNatClampNeg) (xs (i + 2).toNatClampNeg) (xs (i + 3).toNatClampNeg) _ e8) kX8_skillWanted kvX8_skillWanted wl_L_143 rfl rfl rfl rfl (Nat.le_of_ble_eq_true rfl) ⟨Nat.le_of_ble_eq_true rfl, Nat.le_of_ble_eq_true rfl⟩ ⟨Nat.le_of_ble_eq_true rfl, Nat.le_of_ble_eq_true rfl⟩ dL_law_1239 rfl ?_
  exact g_icmp_eq C 1592 1245 dL_law_1242 (by decide) rfl (fun _ => kk Z' S' hr) (fun c => absurd rfl c)
set_option maxHeartbeats 4000000 in
set_option maxRecDepth 100000 in
theorem lw_c31 {L : LL} {Γ : GC} {o : Nat → Nat} {q : Nat → Nat → Nat} {o2 : Nat} {u : Nat → Nat} {Z : Nat → OS} {S : OS} {b N : Nat} {xs : Nat → Int32} {i : Int32} (C : Cx L Γ cL_law RL (rmk 12 48 1334 478)) (X : Xs Γ b N xs) (h : Rel Z S) (h1 : vp_in (i + 1) N) (h2 : vp_in (i + 2) N) (h3 : vp_in (i + 3) N) (h4 : vp_in (i + 4) N) (kk : ∀ (Z' : Nat → OS) (S' : OS), Rel Z' S' → G L Γ 48 1334 (cells7 L o q Z' ++ cells8 L o2 u S') 1592 [(3, .int i), (0, .ref b), (1, .ref (o 0)), (2, .ref o2)] []) : G L Γ 48 1334 (cells7 L o q Z ++ cells8 L o2 u S) 1247 [(3, .int i), (0, .ref b), (1, .ref (o 0)), (2, .ref o2)] [] := by
  obtain ⟨r, e7, e8⟩ := q_limitWanted h
  refine g_aload_n C 1248 2 dL_law_1247 rfl rfl ?_
  refine g_call7 (Z' := Z) C 1251 [] [.int r] (ct_X7_limitWanted L o q Z _ e7) kX7_limitWanted kvX7_limitWanted wl_L_144 rfl rfl rfl rfl (Nat.le_of_ble_eq_true rfl) ⟨Nat.le_of_ble_eq_true rfl, Nat.le_of_ble_eq_true rfl⟩ ⟨Nat.le_of_ble_eq_true rfl, Nat.le_of_ble_eq_true rfl⟩ dL_law_1248 rfl ?_
  refine g_aload_n C 1252 3 dL_law_1251 rfl rfl ?_
  refine g_call8 (S' := S) C 1255 [.int r] [.int r, .int r] (ct_X8_limitWanted L o2 u S _ e8) kX8_limitWanted kvX8_limitWanted wl_L_147 rfl rfl rfl rfl (Nat.le_of_ble_eq_true rfl) ⟨Nat.le_of_ble_eq_true rfl, Nat.le_of_ble_eq_true rfl⟩ ⟨Nat.le_of_ble_eq_true rfl, Nat.le_of_ble_eq_true rfl⟩ dL_law_1252 rfl ?_
  exact g_icmp_eq C 1592 1258 dL_law_1255 (by decide) rfl (fun _ => kk Z S h) (fun c => absurd rfl c)

/-! ===== where the premises speak of the texts (by program, wip/whole/start.py) ===== -/
noncomputable def mj_fl : List Cond := flatC (Jvm.Cond.and given_1 narrow_1)
def mj_tm (t : Nat) : Term := match mj_lkS[t]? with
  | some e => .string (mj_cn e.1) e.2.1
  | none => .int 0
def mj_SW (t : Nat) : Prop := Cond.exactly (mj_tm t) "java/lang/String" ∈ mj_fl ∧ Cond.eq (.field (mj_tm t) "java/lang/String" "coder" "B") (.int 0) ∈ mj_fl ∧ Cond.arrayOf (.field (mj_tm t) "java/lang/String" "value" "[B") .byte ∈ mj_fl ∧ Cond.eq (.length (.field (mj_tm t) "java/lang/String" "value" "[B")) (.int (Int32.ofNat (mj_tx t).length)) ∈ mj_fl ∧
  ∀ j, j < (mj_tx t).length → Cond.eq (.elem (.field (mj_tm t) "java/lang/String" "value" "[B") (.int (Int32.ofNat j))) (.int ((mj_tx t).getD j 0)) ∈ mj_fl
theorem mj_sw_0 : mj_SW 0 := by
  refine ⟨List.mem_of_getElem? (i := 740) (by decide +kernel), List.mem_of_getElem? (i := 741) (by decide +kernel), List.mem_of_getElem? (i := 742) (by decide +kernel), List.mem_of_getElem? (i := 743) (by decide +kernel), ?_⟩
  intro j hj
  have hj : j < 5 := hj
  match j, hj with
  | 0, _ => exact List.mem_of_getElem? (i := 744) (by decide +kernel)
  | 1, _ => exact List.mem_of_getElem? (i := 745) (by decide +kernel)
  | 2, _ => exact List.mem_of_getElem? (i := 746) (by decide +kernel)
  | 3, _ => exact List.mem_of_getElem? (i := 747) (by decide +kernel)
  | 4, _ => exact List.mem_of_getElem? (i := 748) (by decide +kernel)
theorem mj_sw_1 : mj_SW 1 := by
  refine ⟨List.mem_of_getElem? (i := 750) (by decide +kernel), List.mem_of_getElem? (i := 751) (by decide +kernel), List.mem_of_getElem? (i := 752) (by decide +kernel), List.mem_of_getElem? (i := 753) (by decide +kernel), ?_⟩
  intro j hj
  have hj : j < 6 := hj
  match j, hj with
  | 0, _ => exact List.mem_of_getElem? (i := 754) (by decide +kernel)
  | 1, _ => exact List.mem_of_getElem? (i := 755) (by decide +kernel)
  | 2, _ => exact List.mem_of_getElem? (i := 756) (by decide +kernel)
  | 3, _ => exact List.mem_of_getElem? (i := 757) (by decide +kernel)
  | 4, _ => exact List.mem_of_getElem? (i := 758) (by decide +kernel)
  | 5, _ => exact List.mem_of_getElem? (i := 759) (by decide +kernel)
theorem mj_sw_2 : mj_SW 2 := by
  refine ⟨List.mem_of_getElem? (i := 761) (by decide +kernel), List.mem_of_getElem? (i := 762) (by decide +kernel), List.mem_of_getElem? (i := 763) (by decide +kernel), List.mem_of_getElem? (i := 764) (by decide +kernel), ?_⟩
  intro j hj
  have hj : j < 6 := hj
  match j, hj with
  | 0, _ => exact List.mem_of_getElem? (i := 765) (by decide +kernel)
  | 1, _ => exact List.mem_of_getElem? (i := 766) (by decide +kernel)
  | 2, _ => exact List.mem_of_getElem? (i := 767) (by decide +kernel)
  | 3, _ => exact List.mem_of_getElem? (i := 768) (by decide +kernel)
  | 4, _ => exact List.mem_of_getElem? (i := 769) (by decide +kernel)
  | 5, _ => exact List.mem_of_getElem? (i := 770) (by decide +kernel)
theorem mj_sw_3 : mj_SW 3 := by
  refine ⟨List.mem_of_getElem? (i := 674) (by decide +kernel), List.mem_of_getElem? (i := 675) (by decide +kernel), List.mem_of_getElem? (i := 676) (by decide +kernel), List.mem_of_getElem? (i := 677) (by decide +kernel), ?_⟩
  intro j hj
  have hj : j < 3 := hj
  match j, hj with
  | 0, _ => exact List.mem_of_getElem? (i := 678) (by decide +kernel)
  | 1, _ => exact List.mem_of_getElem? (i := 679) (by decide +kernel)
  | 2, _ => exact List.mem_of_getElem? (i := 680) (by decide +kernel)
theorem mj_sw_4 : mj_SW 4 := by
  refine ⟨List.mem_of_getElem? (i := 683) (by decide +kernel), List.mem_of_getElem? (i := 684) (by decide +kernel), List.mem_of_getElem? (i := 685) (by decide +kernel), List.mem_of_getElem? (i := 686) (by decide +kernel), ?_⟩
  intro j hj
  have hj : j < 6 := hj
  match j, hj with
  | 0, _ => exact List.mem_of_getElem? (i := 687) (by decide +kernel)
  | 1, _ => exact List.mem_of_getElem? (i := 688) (by decide +kernel)
  | 2, _ => exact List.mem_of_getElem? (i := 689) (by decide +kernel)
  | 3, _ => exact List.mem_of_getElem? (i := 690) (by decide +kernel)
  | 4, _ => exact List.mem_of_getElem? (i := 691) (by decide +kernel)
  | 5, _ => exact List.mem_of_getElem? (i := 692) (by decide +kernel)
theorem mj_sw_5 : mj_SW 5 := by
  refine ⟨List.mem_of_getElem? (i := 695) (by decide +kernel), List.mem_of_getElem? (i := 696) (by decide +kernel), List.mem_of_getElem? (i := 697) (by decide +kernel), List.mem_of_getElem? (i := 698) (by decide +kernel), ?_⟩
  intro j hj
  have hj : j < 4 := hj
  match j, hj with
  | 0, _ => exact List.mem_of_getElem? (i := 699) (by decide +kernel)
  | 1, _ => exact List.mem_of_getElem? (i := 700) (by decide +kernel)
  | 2, _ => exact List.mem_of_getElem? (i := 701) (by decide +kernel)
  | 3, _ => exact List.mem_of_getElem? (i := 702) (by decide +kernel)
theorem mj_sw_6 : mj_SW 6 := by
  refine ⟨List.mem_of_getElem? (i := 783) (by decide +kernel), List.mem_of_getElem? (i := 784) (by decide +kernel), List.mem_of_getElem? (i := 785) (by decide +kernel), List.mem_of_getElem? (i := 786) (by decide +kernel), ?_⟩
  intro j hj
  have hj : j < 6 := hj
  match j, hj with
  | 0, _ => exact List.mem_of_getElem? (i := 787) (by decide +kernel)
  | 1, _ => exact List.mem_of_getElem? (i := 788) (by decide +kernel)
  | 2, _ => exact List.mem_of_getElem? (i := 789) (by decide +kernel)
  | 3, _ => exact List.mem_of_getElem? (i := 790) (by decide +kernel)
  | 4, _ => exact List.mem_of_getElem? (i := 791) (by decide +kernel)
  | 5, _ => exact List.mem_of_getElem? (i := 792) (by decide +kernel)
theorem mj_sw_7 : mj_SW 7 := by
  refine ⟨List.mem_of_getElem? (i := 794) (by decide +kernel), List.mem_of_getElem? (i := 795) (by decide +kernel), List.mem_of_getElem? (i := 796) (by decide +kernel), List.mem_of_getElem? (i := 797) (by decide +kernel), ?_⟩
  intro j hj
  have hj : j < 6 := hj
  match j, hj with
  | 0, _ => exact List.mem_of_getElem? (i := 798) (by decide +kernel)
  | 1, _ => exact List.mem_of_getElem? (i := 799) (by decide +kernel)
  | 2, _ => exact List.mem_of_getElem? (i := 800) (by decide +kernel)
  | 3, _ => exact List.mem_of_getElem? (i := 801) (by decide +kernel)
  | 4, _ => exact List.mem_of_getElem? (i := 802) (by decide +kernel)
  | 5, _ => exact List.mem_of_getElem? (i := 803) (by decide +kernel)
theorem mj_sw_8 : mj_SW 8 := by
  refine ⟨List.mem_of_getElem? (i := 805) (by decide +kernel), List.mem_of_getElem? (i := 806) (by decide +kernel), List.mem_of_getElem? (i := 807) (by decide +kernel), List.mem_of_getElem? (i := 808) (by decide +kernel), ?_⟩
  intro j hj
  have hj : j < 5 := hj
  match j, hj with
  | 0, _ => exact List.mem_of_getElem? (i := 809) (by decide +kernel)
  | 1, _ => exact List.mem_of_getElem? (i := 810) (by decide +kernel)
  | 2, _ => exact List.mem_of_getElem? (i := 811) (by decide +kernel)
  | 3, _ => exact List.mem_of_getElem? (i := 812) (by decide +kernel)
  | 4, _ => exact List.mem_of_getElem? (i := 813) (by decide +kernel)
theorem mj_sw_9 : mj_SW 9 := by
  refine ⟨List.mem_of_getElem? (i := 815) (by decide +kernel), List.mem_of_getElem? (i := 816) (by decide +kernel), List.mem_of_getElem? (i := 817) (by decide +kernel), List.mem_of_getElem? (i := 818) (by decide +kernel), ?_⟩
  intro j hj
  have hj : j < 4 := hj
  match j, hj with
  | 0, _ => exact List.mem_of_getElem? (i := 819) (by decide +kernel)
  | 1, _ => exact List.mem_of_getElem? (i := 820) (by decide +kernel)
  | 2, _ => exact List.mem_of_getElem? (i := 821) (by decide +kernel)
  | 3, _ => exact List.mem_of_getElem? (i := 822) (by decide +kernel)
theorem mj_sw_10 : mj_SW 10 := by
  refine ⟨List.mem_of_getElem? (i := 824) (by decide +kernel), List.mem_of_getElem? (i := 825) (by decide +kernel), List.mem_of_getElem? (i := 826) (by decide +kernel), List.mem_of_getElem? (i := 827) (by decide +kernel), ?_⟩
  intro j hj
  have hj : j < 4 := hj
  match j, hj with
  | 0, _ => exact List.mem_of_getElem? (i := 828) (by decide +kernel)
  | 1, _ => exact List.mem_of_getElem? (i := 829) (by decide +kernel)
  | 2, _ => exact List.mem_of_getElem? (i := 830) (by decide +kernel)
  | 3, _ => exact List.mem_of_getElem? (i := 831) (by decide +kernel)
theorem mj_sw_11 : mj_SW 11 := by
  refine ⟨List.mem_of_getElem? (i := 851) (by decide +kernel), List.mem_of_getElem? (i := 852) (by decide +kernel), List.mem_of_getElem? (i := 853) (by decide +kernel), List.mem_of_getElem? (i := 854) (by decide +kernel), ?_⟩
  intro j hj
  have hj : j < 5 := hj
  match j, hj with
  | 0, _ => exact List.mem_of_getElem? (i := 855) (by decide +kernel)
  | 1, _ => exact List.mem_of_getElem? (i := 856) (by decide +kernel)
  | 2, _ => exact List.mem_of_getElem? (i := 857) (by decide +kernel)
  | 3, _ => exact List.mem_of_getElem? (i := 858) (by decide +kernel)
  | 4, _ => exact List.mem_of_getElem? (i := 859) (by decide +kernel)
theorem mj_sw_12 : mj_SW 12 := by
  refine ⟨List.mem_of_getElem? (i := 861) (by decide +kernel), List.mem_of_getElem? (i := 862) (by decide +kernel), List.mem_of_getElem? (i := 863) (by decide +kernel), List.mem_of_getElem? (i := 864) (by decide +kernel), ?_⟩
  intro j hj
  have hj : j < 4 := hj
  match j, hj with
  | 0, _ => exact List.mem_of_getElem? (i := 865) (by decide +kernel)
  | 1, _ => exact List.mem_of_getElem? (i := 866) (by decide +kernel)
  | 2, _ => exact List.mem_of_getElem? (i := 867) (by decide +kernel)
  | 3, _ => exact List.mem_of_getElem? (i := 868) (by decide +kernel)
theorem mj_sw_13 : mj_SW 13 := by
  refine ⟨List.mem_of_getElem? (i := 656) (by decide +kernel), List.mem_of_getElem? (i := 657) (by decide +kernel), List.mem_of_getElem? (i := 658) (by decide +kernel), List.mem_of_getElem? (i := 659) (by decide +kernel), ?_⟩
  intro j hj
  have hj : j < 3 := hj
  match j, hj with
  | 0, _ => exact List.mem_of_getElem? (i := 660) (by decide +kernel)
  | 1, _ => exact List.mem_of_getElem? (i := 661) (by decide +kernel)
  | 2, _ => exact List.mem_of_getElem? (i := 662) (by decide +kernel)
theorem mj_sw_14 : mj_SW 14 := by
  refine ⟨List.mem_of_getElem? (i := 772) (by decide +kernel), List.mem_of_getElem? (i := 773) (by decide +kernel), List.mem_of_getElem? (i := 774) (by decide +kernel), List.mem_of_getElem? (i := 775) (by decide +kernel), ?_⟩
  intro j hj
  have hj : j < 6 := hj
  match j, hj with
  | 0, _ => exact List.mem_of_getElem? (i := 776) (by decide +kernel)
  | 1, _ => exact List.mem_of_getElem? (i := 777) (by decide +kernel)
  | 2, _ => exact List.mem_of_getElem? (i := 778) (by decide +kernel)
  | 3, _ => exact List.mem_of_getElem? (i := 779) (by decide +kernel)
  | 4, _ => exact List.mem_of_getElem? (i := 780) (by decide +kernel)
  | 5, _ => exact List.mem_of_getElem? (i := 781) (by decide +kernel)
theorem mj_sw_15 : mj_SW 15 := by
  refine ⟨List.mem_of_getElem? (i := 833) (by decide +kernel), List.mem_of_getElem? (i := 834) (by decide +kernel), List.mem_of_getElem? (i := 835) (by decide +kernel), List.mem_of_getElem? (i := 836) (by decide +kernel), ?_⟩
  intro j hj
  have hj : j < 4 := hj
  match j, hj with
  | 0, _ => exact List.mem_of_getElem? (i := 837) (by decide +kernel)
  | 1, _ => exact List.mem_of_getElem? (i := 838) (by decide +kernel)
  | 2, _ => exact List.mem_of_getElem? (i := 839) (by decide +kernel)
  | 3, _ => exact List.mem_of_getElem? (i := 840) (by decide +kernel)
theorem mj_sw_16 : mj_SW 16 := by
  refine ⟨List.mem_of_getElem? (i := 842) (by decide +kernel), List.mem_of_getElem? (i := 843) (by decide +kernel), List.mem_of_getElem? (i := 844) (by decide +kernel), List.mem_of_getElem? (i := 845) (by decide +kernel), ?_⟩
  intro j hj
  have hj : j < 4 := hj
  match j, hj with
  | 0, _ => exact List.mem_of_getElem? (i := 846) (by decide +kernel)
  | 1, _ => exact List.mem_of_getElem? (i := 847) (by decide +kernel)
  | 2, _ => exact List.mem_of_getElem? (i := 848) (by decide +kernel)
  | 3, _ => exact List.mem_of_getElem? (i := 849) (by decide +kernel)
theorem mj_sw_17 : mj_SW 17 := by
  refine ⟨List.mem_of_getElem? (i := 870) (by decide +kernel), List.mem_of_getElem? (i := 871) (by decide +kernel), List.mem_of_getElem? (i := 872) (by decide +kernel), List.mem_of_getElem? (i := 873) (by decide +kernel), ?_⟩
  intro j hj
  have hj : j < 5 := hj
  match j, hj with
  | 0, _ => exact List.mem_of_getElem? (i := 874) (by decide +kernel)
  | 1, _ => exact List.mem_of_getElem? (i := 875) (by decide +kernel)
  | 2, _ => exact List.mem_of_getElem? (i := 876) (by decide +kernel)
  | 3, _ => exact List.mem_of_getElem? (i := 877) (by decide +kernel)
  | 4, _ => exact List.mem_of_getElem? (i := 878) (by decide +kernel)
theorem mj_sw_18 : mj_SW 18 := by
  refine ⟨List.mem_of_getElem? (i := 880) (by decide +kernel), List.mem_of_getElem? (i := 881) (by decide +kernel), List.mem_of_getElem? (i := 882) (by decide +kernel), List.mem_of_getElem? (i := 883) (by decide +kernel), ?_⟩
  intro j hj
  have hj : j < 5 := hj
  match j, hj with
  | 0, _ => exact List.mem_of_getElem? (i := 884) (by decide +kernel)
  | 1, _ => exact List.mem_of_getElem? (i := 885) (by decide +kernel)
  | 2, _ => exact List.mem_of_getElem? (i := 886) (by decide +kernel)
  | 3, _ => exact List.mem_of_getElem? (i := 887) (by decide +kernel)
  | 4, _ => exact List.mem_of_getElem? (i := 888) (by decide +kernel)
theorem mj_sw_19 : mj_SW 19 := by
  refine ⟨List.mem_of_getElem? (i := 705) (by decide +kernel), List.mem_of_getElem? (i := 706) (by decide +kernel), List.mem_of_getElem? (i := 707) (by decide +kernel), List.mem_of_getElem? (i := 708) (by decide +kernel), ?_⟩
  intro j hj
  have hj : j < 4 := hj
  match j, hj with
  | 0, _ => exact List.mem_of_getElem? (i := 709) (by decide +kernel)
  | 1, _ => exact List.mem_of_getElem? (i := 710) (by decide +kernel)
  | 2, _ => exact List.mem_of_getElem? (i := 711) (by decide +kernel)
  | 3, _ => exact List.mem_of_getElem? (i := 712) (by decide +kernel)
theorem mj_sw_20 : mj_SW 20 := by
  refine ⟨List.mem_of_getElem? (i := 715) (by decide +kernel), List.mem_of_getElem? (i := 716) (by decide +kernel), List.mem_of_getElem? (i := 717) (by decide +kernel), List.mem_of_getElem? (i := 718) (by decide +kernel), ?_⟩
  intro j hj
  have hj : j < 4 := hj
  match j, hj with
  | 0, _ => exact List.mem_of_getElem? (i := 719) (by decide +kernel)
  | 1, _ => exact List.mem_of_getElem? (i := 720) (by decide +kernel)
  | 2, _ => exact List.mem_of_getElem? (i := 721) (by decide +kernel)
  | 3, _ => exact List.mem_of_getElem? (i := 722) (by decide +kernel)
theorem mj_sw_21 : mj_SW 21 := by
  refine ⟨List.mem_of_getElem? (i := 626) (by decide +kernel), List.mem_of_getElem? (i := 627) (by decide +kernel), List.mem_of_getElem? (i := 628) (by decide +kernel), List.mem_of_getElem? (i := 629) (by decide +kernel), ?_⟩
  intro j hj
  have hj : j < 3 := hj
  match j, hj with
  | 0, _ => exact List.mem_of_getElem? (i := 630) (by decide +kernel)
  | 1, _ => exact List.mem_of_getElem? (i := 631) (by decide +kernel)
  | 2, _ => exact List.mem_of_getElem? (i := 632) (by decide +kernel)
theorem mj_sw_22 : mj_SW 22 := by
  refine ⟨List.mem_of_getElem? (i := 665) (by decide +kernel), List.mem_of_getElem? (i := 666) (by decide +kernel), List.mem_of_getElem? (i := 667) (by decide +kernel), List.mem_of_getElem? (i := 668) (by decide +kernel), ?_⟩
  intro j hj
  have hj : j < 4 := hj
  match j, hj with
  | 0, _ => exact List.mem_of_getElem? (i := 669) (by decide +kernel)
  | 1, _ => exact List.mem_of_getElem? (i := 670) (by decide +kernel)
  | 2, _ => exact List.mem_of_getElem? (i := 671) (by decide +kernel)
  | 3, _ => exact List.mem_of_getElem? (i := 672) (by decide +kernel)
theorem mj_sw_23 : mj_SW 23 := by
  refine ⟨List.mem_of_getElem? (i := 635) (by decide +kernel), List.mem_of_getElem? (i := 636) (by decide +kernel), List.mem_of_getElem? (i := 637) (by decide +kernel), List.mem_of_getElem? (i := 638) (by decide +kernel), ?_⟩
  intro j hj
  have hj : j < 4 := hj
  match j, hj with
  | 0, _ => exact List.mem_of_getElem? (i := 639) (by decide +kernel)
  | 1, _ => exact List.mem_of_getElem? (i := 640) (by decide +kernel)
  | 2, _ => exact List.mem_of_getElem? (i := 641) (by decide +kernel)
  | 3, _ => exact List.mem_of_getElem? (i := 642) (by decide +kernel)
theorem mj_sw_24 : mj_SW 24 := by
  refine ⟨List.mem_of_getElem? (i := 644) (by decide +kernel), List.mem_of_getElem? (i := 645) (by decide +kernel), List.mem_of_getElem? (i := 646) (by decide +kernel), List.mem_of_getElem? (i := 647) (by decide +kernel), ?_⟩
  intro j hj
  have hj : j < 7 := hj
  match j, hj with
  | 0, _ => exact List.mem_of_getElem? (i := 648) (by decide +kernel)
  | 1, _ => exact List.mem_of_getElem? (i := 649) (by decide +kernel)
  | 2, _ => exact List.mem_of_getElem? (i := 650) (by decide +kernel)
  | 3, _ => exact List.mem_of_getElem? (i := 651) (by decide +kernel)
  | 4, _ => exact List.mem_of_getElem? (i := 652) (by decide +kernel)
  | 5, _ => exact List.mem_of_getElem? (i := 653) (by decide +kernel)
  | 6, _ => exact List.mem_of_getElem? (i := 654) (by decide +kernel)
theorem mj_sw_25 : mj_SW 25 := by
  refine ⟨List.mem_of_getElem? (i := 618) (by decide +kernel), List.mem_of_getElem? (i := 619) (by decide +kernel), List.mem_of_getElem? (i := 620) (by decide +kernel), List.mem_of_getElem? (i := 621) (by decide +kernel), ?_⟩
  intro j hj
  have hj : j < 3 := hj
  match j, hj with
  | 0, _ => exact List.mem_of_getElem? (i := 622) (by decide +kernel)
  | 1, _ => exact List.mem_of_getElem? (i := 623) (by decide +kernel)
  | 2, _ => exact List.mem_of_getElem? (i := 624) (by decide +kernel)
theorem mj_sw_26 : mj_SW 26 := by
  refine ⟨List.mem_of_getElem? (i := 725) (by decide +kernel), List.mem_of_getElem? (i := 726) (by decide +kernel), List.mem_of_getElem? (i := 727) (by decide +kernel), List.mem_of_getElem? (i := 728) (by decide +kernel), ?_⟩
  intro j hj
  have hj : j < 3 := hj
  match j, hj with
  | 0, _ => exact List.mem_of_getElem? (i := 729) (by decide +kernel)
  | 1, _ => exact List.mem_of_getElem? (i := 730) (by decide +kernel)
  | 2, _ => exact List.mem_of_getElem? (i := 731) (by decide +kernel)
theorem mj_sw_27 : mj_SW 27 := by
  refine ⟨List.mem_of_getElem? (i := 733) (by decide +kernel), List.mem_of_getElem? (i := 734) (by decide +kernel), List.mem_of_getElem? (i := 735) (by decide +kernel), List.mem_of_getElem? (i := 736) (by decide +kernel), ?_⟩
  intro j hj
  have hj : j < 2 := hj
  match j, hj with
  | 0, _ => exact List.mem_of_getElem? (i := 737) (by decide +kernel)
  | 1, _ => exact List.mem_of_getElem? (i := 738) (by decide +kernel)
theorem mj_sw_28 : mj_SW 28 := by
  refine ⟨List.mem_of_getElem? (i := 585) (by decide +kernel), List.mem_of_getElem? (i := 586) (by decide +kernel), List.mem_of_getElem? (i := 587) (by decide +kernel), List.mem_of_getElem? (i := 588) (by decide +kernel), ?_⟩
  intro j hj
  have hj : j < 4 := hj
  match j, hj with
  | 0, _ => exact List.mem_of_getElem? (i := 589) (by decide +kernel)
  | 1, _ => exact List.mem_of_getElem? (i := 590) (by decide +kernel)
  | 2, _ => exact List.mem_of_getElem? (i := 591) (by decide +kernel)
  | 3, _ => exact List.mem_of_getElem? (i := 592) (by decide +kernel)
theorem mj_sw_29 : mj_SW 29 := by
  refine ⟨List.mem_of_getElem? (i := 594) (by decide +kernel), List.mem_of_getElem? (i := 595) (by decide +kernel), List.mem_of_getElem? (i := 596) (by decide +kernel), List.mem_of_getElem? (i := 597) (by decide +kernel), ?_⟩
  intro j hj
  have hj : j < 3 := hj
  match j, hj with
  | 0, _ => exact List.mem_of_getElem? (i := 598) (by decide +kernel)
  | 1, _ => exact List.mem_of_getElem? (i := 599) (by decide +kernel)
  | 2, _ => exact List.mem_of_getElem? (i := 600) (by decide +kernel)
theorem mj_sw_30 : mj_SW 30 := by
  refine ⟨List.mem_of_getElem? (i := 602) (by decide +kernel), List.mem_of_getElem? (i := 603) (by decide +kernel), List.mem_of_getElem? (i := 604) (by decide +kernel), List.mem_of_getElem? (i := 605) (by decide +kernel), ?_⟩
  intro j hj
  have hj : j < 4 := hj
  match j, hj with
  | 0, _ => exact List.mem_of_getElem? (i := 606) (by decide +kernel)
  | 1, _ => exact List.mem_of_getElem? (i := 607) (by decide +kernel)
  | 2, _ => exact List.mem_of_getElem? (i := 608) (by decide +kernel)
  | 3, _ => exact List.mem_of_getElem? (i := 609) (by decide +kernel)
theorem mj_sw_31 : mj_SW 31 := by
  refine ⟨List.mem_of_getElem? (i := 611) (by decide +kernel), List.mem_of_getElem? (i := 612) (by decide +kernel), List.mem_of_getElem? (i := 613) (by decide +kernel), List.mem_of_getElem? (i := 614) (by decide +kernel), ?_⟩
  intro j hj
  have hj : j < 2 := hj
  match j, hj with
  | 0, _ => exact List.mem_of_getElem? (i := 615) (by decide +kernel)
  | 1, _ => exact List.mem_of_getElem? (i := 616) (by decide +kernel)
theorem mj_sw_32 : mj_SW 32 := by
  refine ⟨List.mem_of_getElem? (i := 86) (by decide +kernel), List.mem_of_getElem? (i := 87) (by decide +kernel), List.mem_of_getElem? (i := 88) (by decide +kernel), List.mem_of_getElem? (i := 89) (by decide +kernel), ?_⟩
  intro j hj
  have hj : j < 3 := hj
  match j, hj with
  | 0, _ => exact List.mem_of_getElem? (i := 90) (by decide +kernel)
  | 1, _ => exact List.mem_of_getElem? (i := 91) (by decide +kernel)
  | 2, _ => exact List.mem_of_getElem? (i := 92) (by decide +kernel)
theorem mj_sw_33 : mj_SW 33 := by
  refine ⟨List.mem_of_getElem? (i := 147) (by decide +kernel), List.mem_of_getElem? (i := 148) (by decide +kernel), List.mem_of_getElem? (i := 149) (by decide +kernel), List.mem_of_getElem? (i := 150) (by decide +kernel), ?_⟩
  intro j hj
  have hj : j < 6 := hj
  match j, hj with
  | 0, _ => exact List.mem_of_getElem? (i := 151) (by decide +kernel)
  | 1, _ => exact List.mem_of_getElem? (i := 152) (by decide +kernel)
  | 2, _ => exact List.mem_of_getElem? (i := 153) (by decide +kernel)
  | 3, _ => exact List.mem_of_getElem? (i := 154) (by decide +kernel)
  | 4, _ => exact List.mem_of_getElem? (i := 155) (by decide +kernel)
  | 5, _ => exact List.mem_of_getElem? (i := 156) (by decide +kernel)
theorem mj_sw_34 : mj_SW 34 := by
  refine ⟨List.mem_of_getElem? (i := 202) (by decide +kernel), List.mem_of_getElem? (i := 203) (by decide +kernel), List.mem_of_getElem? (i := 204) (by decide +kernel), List.mem_of_getElem? (i := 205) (by decide +kernel), ?_⟩
  intro j hj
  have hj : j < 4 := hj
  match j, hj with
  | 0, _ => exact List.mem_of_getElem? (i := 206) (by decide +kernel)
  | 1, _ => exact List.mem_of_getElem? (i := 207) (by decide +kernel)
  | 2, _ => exact List.mem_of_getElem? (i := 208) (by decide +kernel)
  | 3, _ => exact List.mem_of_getElem? (i := 209) (by decide +kernel)
theorem mj_sw_35 : mj_SW 35 := by
  refine ⟨List.mem_of_getElem? (i := 227) (by decide +kernel), List.mem_of_getElem? (i := 228) (by decide +kernel), List.mem_of_getElem? (i := 229) (by decide +kernel), List.mem_of_getElem? (i := 230) (by decide +kernel), ?_⟩
  intro j hj
  have hj : j < 5 := hj
  match j, hj with
  | 0, _ => exact List.mem_of_getElem? (i := 231) (by decide +kernel)
  | 1, _ => exact List.mem_of_getElem? (i := 232) (by decide +kernel)
  | 2, _ => exact List.mem_of_getElem? (i := 233) (by decide +kernel)
  | 3, _ => exact List.mem_of_getElem? (i := 234) (by decide +kernel)
  | 4, _ => exact List.mem_of_getElem? (i := 235) (by decide +kernel)
theorem mj_sw_36 : mj_SW 36 := by
  refine ⟨List.mem_of_getElem? (i := 236) (by decide +kernel), List.mem_of_getElem? (i := 237) (by decide +kernel), List.mem_of_getElem? (i := 238) (by decide +kernel), List.mem_of_getElem? (i := 239) (by decide +kernel), ?_⟩
  intro j hj
  have hj : j < 4 := hj
  match j, hj with
  | 0, _ => exact List.mem_of_getElem? (i := 240) (by decide +kernel)
  | 1, _ => exact List.mem_of_getElem? (i := 241) (by decide +kernel)
  | 2, _ => exact List.mem_of_getElem? (i := 242) (by decide +kernel)
  | 3, _ => exact List.mem_of_getElem? (i := 243) (by decide +kernel)
theorem mj_sw_37 : mj_SW 37 := by
  refine ⟨List.mem_of_getElem? (i := 244) (by decide +kernel), List.mem_of_getElem? (i := 245) (by decide +kernel), List.mem_of_getElem? (i := 246) (by decide +kernel), List.mem_of_getElem? (i := 247) (by decide +kernel), ?_⟩
  intro j hj
  have hj : j < 5 := hj
  match j, hj with
  | 0, _ => exact List.mem_of_getElem? (i := 248) (by decide +kernel)
  | 1, _ => exact List.mem_of_getElem? (i := 249) (by decide +kernel)
  | 2, _ => exact List.mem_of_getElem? (i := 250) (by decide +kernel)
  | 3, _ => exact List.mem_of_getElem? (i := 251) (by decide +kernel)
  | 4, _ => exact List.mem_of_getElem? (i := 252) (by decide +kernel)
theorem mj_sw_38 : mj_SW 38 := by
  refine ⟨List.mem_of_getElem? (i := 253) (by decide +kernel), List.mem_of_getElem? (i := 254) (by decide +kernel), List.mem_of_getElem? (i := 255) (by decide +kernel), List.mem_of_getElem? (i := 256) (by decide +kernel), ?_⟩
  intro j hj
  have hj : j < 4 := hj
  match j, hj with
  | 0, _ => exact List.mem_of_getElem? (i := 257) (by decide +kernel)
  | 1, _ => exact List.mem_of_getElem? (i := 258) (by decide +kernel)
  | 2, _ => exact List.mem_of_getElem? (i := 259) (by decide +kernel)
  | 3, _ => exact List.mem_of_getElem? (i := 260) (by decide +kernel)
theorem mj_sw_39 : mj_SW 39 := by
  refine ⟨List.mem_of_getElem? (i := 261) (by decide +kernel), List.mem_of_getElem? (i := 262) (by decide +kernel), List.mem_of_getElem? (i := 263) (by decide +kernel), List.mem_of_getElem? (i := 264) (by decide +kernel), ?_⟩
  intro j hj
  have hj : j < 4 := hj
  match j, hj with
  | 0, _ => exact List.mem_of_getElem? (i := 265) (by decide +kernel)
  | 1, _ => exact List.mem_of_getElem? (i := 266) (by decide +kernel)
  | 2, _ => exact List.mem_of_getElem? (i := 267) (by decide +kernel)
  | 3, _ => exact List.mem_of_getElem? (i := 268) (by decide +kernel)
theorem mj_sw_40 : mj_SW 40 := by
  refine ⟨List.mem_of_getElem? (i := 269) (by decide +kernel), List.mem_of_getElem? (i := 270) (by decide +kernel), List.mem_of_getElem? (i := 271) (by decide +kernel), List.mem_of_getElem? (i := 272) (by decide +kernel), ?_⟩
  intro j hj
  have hj : j < 3 := hj
  match j, hj with
  | 0, _ => exact List.mem_of_getElem? (i := 273) (by decide +kernel)
  | 1, _ => exact List.mem_of_getElem? (i := 274) (by decide +kernel)
  | 2, _ => exact List.mem_of_getElem? (i := 275) (by decide +kernel)
theorem mj_sw_41 : mj_SW 41 := by
  refine ⟨List.mem_of_getElem? (i := 122) (by decide +kernel), List.mem_of_getElem? (i := 123) (by decide +kernel), List.mem_of_getElem? (i := 124) (by decide +kernel), List.mem_of_getElem? (i := 125) (by decide +kernel), ?_⟩
  intro j hj
  have hj : j < 3 := hj
  match j, hj with
  | 0, _ => exact List.mem_of_getElem? (i := 126) (by decide +kernel)
  | 1, _ => exact List.mem_of_getElem? (i := 127) (by decide +kernel)
  | 2, _ => exact List.mem_of_getElem? (i := 128) (by decide +kernel)
theorem mj_sw_42 : mj_SW 42 := by
  refine ⟨List.mem_of_getElem? (i := 129) (by decide +kernel), List.mem_of_getElem? (i := 130) (by decide +kernel), List.mem_of_getElem? (i := 131) (by decide +kernel), List.mem_of_getElem? (i := 132) (by decide +kernel), ?_⟩
  intro j hj
  have hj : j < 6 := hj
  match j, hj with
  | 0, _ => exact List.mem_of_getElem? (i := 133) (by decide +kernel)
  | 1, _ => exact List.mem_of_getElem? (i := 134) (by decide +kernel)
  | 2, _ => exact List.mem_of_getElem? (i := 135) (by decide +kernel)
  | 3, _ => exact List.mem_of_getElem? (i := 136) (by decide +kernel)
  | 4, _ => exact List.mem_of_getElem? (i := 137) (by decide +kernel)
  | 5, _ => exact List.mem_of_getElem? (i := 138) (by decide +kernel)
theorem mj_sw_43 : mj_SW 43 := by
  refine ⟨List.mem_of_getElem? (i := 139) (by decide +kernel), List.mem_of_getElem? (i := 140) (by decide +kernel), List.mem_of_getElem? (i := 141) (by decide +kernel), List.mem_of_getElem? (i := 142) (by decide +kernel), ?_⟩
  intro j hj
  have hj : j < 4 := hj
  match j, hj with
  | 0, _ => exact List.mem_of_getElem? (i := 143) (by decide +kernel)
  | 1, _ => exact List.mem_of_getElem? (i := 144) (by decide +kernel)
  | 2, _ => exact List.mem_of_getElem? (i := 145) (by decide +kernel)
  | 3, _ => exact List.mem_of_getElem? (i := 146) (by decide +kernel)
theorem mj_sw_44 : mj_SW 44 := by
  refine ⟨List.mem_of_getElem? (i := 93) (by decide +kernel), List.mem_of_getElem? (i := 94) (by decide +kernel), List.mem_of_getElem? (i := 95) (by decide +kernel), List.mem_of_getElem? (i := 96) (by decide +kernel), ?_⟩
  intro j hj
  have hj : j < 5 := hj
  match j, hj with
  | 0, _ => exact List.mem_of_getElem? (i := 97) (by decide +kernel)
  | 1, _ => exact List.mem_of_getElem? (i := 98) (by decide +kernel)
  | 2, _ => exact List.mem_of_getElem? (i := 99) (by decide +kernel)
  | 3, _ => exact List.mem_of_getElem? (i := 100) (by decide +kernel)
  | 4, _ => exact List.mem_of_getElem? (i := 101) (by decide +kernel)
theorem mj_sw_45 : mj_SW 45 := by
  refine ⟨List.mem_of_getElem? (i := 102) (by decide +kernel), List.mem_of_getElem? (i := 103) (by decide +kernel), List.mem_of_getElem? (i := 104) (by decide +kernel), List.mem_of_getElem? (i := 105) (by decide +kernel), ?_⟩
  intro j hj
  have hj : j < 6 := hj
  match j, hj with
  | 0, _ => exact List.mem_of_getElem? (i := 106) (by decide +kernel)
  | 1, _ => exact List.mem_of_getElem? (i := 107) (by decide +kernel)
  | 2, _ => exact List.mem_of_getElem? (i := 108) (by decide +kernel)
  | 3, _ => exact List.mem_of_getElem? (i := 109) (by decide +kernel)
  | 4, _ => exact List.mem_of_getElem? (i := 110) (by decide +kernel)
  | 5, _ => exact List.mem_of_getElem? (i := 111) (by decide +kernel)
theorem mj_sw_46 : mj_SW 46 := by
  refine ⟨List.mem_of_getElem? (i := 112) (by decide +kernel), List.mem_of_getElem? (i := 113) (by decide +kernel), List.mem_of_getElem? (i := 114) (by decide +kernel), List.mem_of_getElem? (i := 115) (by decide +kernel), ?_⟩
  intro j hj
  have hj : j < 6 := hj
  match j, hj with
  | 0, _ => exact List.mem_of_getElem? (i := 116) (by decide +kernel)
  | 1, _ => exact List.mem_of_getElem? (i := 117) (by decide +kernel)
  | 2, _ => exact List.mem_of_getElem? (i := 118) (by decide +kernel)
  | 3, _ => exact List.mem_of_getElem? (i := 119) (by decide +kernel)
  | 4, _ => exact List.mem_of_getElem? (i := 120) (by decide +kernel)
  | 5, _ => exact List.mem_of_getElem? (i := 121) (by decide +kernel)
theorem mj_sw_47 : mj_SW 47 := by
  refine ⟨List.mem_of_getElem? (i := 157) (by decide +kernel), List.mem_of_getElem? (i := 158) (by decide +kernel), List.mem_of_getElem? (i := 159) (by decide +kernel), List.mem_of_getElem? (i := 160) (by decide +kernel), ?_⟩
  intro j hj
  have hj : j < 6 := hj
  match j, hj with
  | 0, _ => exact List.mem_of_getElem? (i := 161) (by decide +kernel)
  | 1, _ => exact List.mem_of_getElem? (i := 162) (by decide +kernel)
  | 2, _ => exact List.mem_of_getElem? (i := 163) (by decide +kernel)
  | 3, _ => exact List.mem_of_getElem? (i := 164) (by decide +kernel)
  | 4, _ => exact List.mem_of_getElem? (i := 165) (by decide +kernel)
  | 5, _ => exact List.mem_of_getElem? (i := 166) (by decide +kernel)
theorem mj_sw_48 : mj_SW 48 := by
  refine ⟨List.mem_of_getElem? (i := 167) (by decide +kernel), List.mem_of_getElem? (i := 168) (by decide +kernel), List.mem_of_getElem? (i := 169) (by decide +kernel), List.mem_of_getElem? (i := 170) (by decide +kernel), ?_⟩
  intro j hj
  have hj : j < 6 := hj
  match j, hj with
  | 0, _ => exact List.mem_of_getElem? (i := 171) (by decide +kernel)
  | 1, _ => exact List.mem_of_getElem? (i := 172) (by decide +kernel)
  | 2, _ => exact List.mem_of_getElem? (i := 173) (by decide +kernel)
  | 3, _ => exact List.mem_of_getElem? (i := 174) (by decide +kernel)
  | 4, _ => exact List.mem_of_getElem? (i := 175) (by decide +kernel)
  | 5, _ => exact List.mem_of_getElem? (i := 176) (by decide +kernel)
theorem mj_sw_49 : mj_SW 49 := by
  refine ⟨List.mem_of_getElem? (i := 177) (by decide +kernel), List.mem_of_getElem? (i := 178) (by decide +kernel), List.mem_of_getElem? (i := 179) (by decide +kernel), List.mem_of_getElem? (i := 180) (by decide +kernel), ?_⟩
  intro j hj
  have hj : j < 5 := hj
  match j, hj with
  | 0, _ => exact List.mem_of_getElem? (i := 181) (by decide +kernel)
  | 1, _ => exact List.mem_of_getElem? (i := 182) (by decide +kernel)
  | 2, _ => exact List.mem_of_getElem? (i := 183) (by decide +kernel)
  | 3, _ => exact List.mem_of_getElem? (i := 184) (by decide +kernel)
  | 4, _ => exact List.mem_of_getElem? (i := 185) (by decide +kernel)
theorem mj_sw_50 : mj_SW 50 := by
  refine ⟨List.mem_of_getElem? (i := 186) (by decide +kernel), List.mem_of_getElem? (i := 187) (by decide +kernel), List.mem_of_getElem? (i := 188) (by decide +kernel), List.mem_of_getElem? (i := 189) (by decide +kernel), ?_⟩
  intro j hj
  have hj : j < 4 := hj
  match j, hj with
  | 0, _ => exact List.mem_of_getElem? (i := 190) (by decide +kernel)
  | 1, _ => exact List.mem_of_getElem? (i := 191) (by decide +kernel)
  | 2, _ => exact List.mem_of_getElem? (i := 192) (by decide +kernel)
  | 3, _ => exact List.mem_of_getElem? (i := 193) (by decide +kernel)
theorem mj_sw_51 : mj_SW 51 := by
  refine ⟨List.mem_of_getElem? (i := 194) (by decide +kernel), List.mem_of_getElem? (i := 195) (by decide +kernel), List.mem_of_getElem? (i := 196) (by decide +kernel), List.mem_of_getElem? (i := 197) (by decide +kernel), ?_⟩
  intro j hj
  have hj : j < 4 := hj
  match j, hj with
  | 0, _ => exact List.mem_of_getElem? (i := 198) (by decide +kernel)
  | 1, _ => exact List.mem_of_getElem? (i := 199) (by decide +kernel)
  | 2, _ => exact List.mem_of_getElem? (i := 200) (by decide +kernel)
  | 3, _ => exact List.mem_of_getElem? (i := 201) (by decide +kernel)
theorem mj_sw_52 : mj_SW 52 := by
  refine ⟨List.mem_of_getElem? (i := 210) (by decide +kernel), List.mem_of_getElem? (i := 211) (by decide +kernel), List.mem_of_getElem? (i := 212) (by decide +kernel), List.mem_of_getElem? (i := 213) (by decide +kernel), ?_⟩
  intro j hj
  have hj : j < 5 := hj
  match j, hj with
  | 0, _ => exact List.mem_of_getElem? (i := 214) (by decide +kernel)
  | 1, _ => exact List.mem_of_getElem? (i := 215) (by decide +kernel)
  | 2, _ => exact List.mem_of_getElem? (i := 216) (by decide +kernel)
  | 3, _ => exact List.mem_of_getElem? (i := 217) (by decide +kernel)
  | 4, _ => exact List.mem_of_getElem? (i := 218) (by decide +kernel)
theorem mj_sw_53 : mj_SW 53 := by
  refine ⟨List.mem_of_getElem? (i := 219) (by decide +kernel), List.mem_of_getElem? (i := 220) (by decide +kernel), List.mem_of_getElem? (i := 221) (by decide +kernel), List.mem_of_getElem? (i := 222) (by decide +kernel), ?_⟩
  intro j hj
  have hj : j < 4 := hj
  match j, hj with
  | 0, _ => exact List.mem_of_getElem? (i := 223) (by decide +kernel)
  | 1, _ => exact List.mem_of_getElem? (i := 224) (by decide +kernel)
  | 2, _ => exact List.mem_of_getElem? (i := 225) (by decide +kernel)
  | 3, _ => exact List.mem_of_getElem? (i := 226) (by decide +kernel)
theorem mj_sw_54 : mj_SW 54 := by
  refine ⟨List.mem_of_getElem? (i := 342) (by decide +kernel), List.mem_of_getElem? (i := 343) (by decide +kernel), List.mem_of_getElem? (i := 344) (by decide +kernel), List.mem_of_getElem? (i := 345) (by decide +kernel), ?_⟩
  intro j hj
  have hj : j < 2 := hj
  match j, hj with
  | 0, _ => exact List.mem_of_getElem? (i := 346) (by decide +kernel)
  | 1, _ => exact List.mem_of_getElem? (i := 347) (by decide +kernel)
theorem mj_sw_55 : mj_SW 55 := by
  refine ⟨List.mem_of_getElem? (i := 319) (by decide +kernel), List.mem_of_getElem? (i := 320) (by decide +kernel), List.mem_of_getElem? (i := 321) (by decide +kernel), List.mem_of_getElem? (i := 322) (by decide +kernel), ?_⟩
  intro j hj
  have hj : j < 4 := hj
  match j, hj with
  | 0, _ => exact List.mem_of_getElem? (i := 323) (by decide +kernel)
  | 1, _ => exact List.mem_of_getElem? (i := 324) (by decide +kernel)
  | 2, _ => exact List.mem_of_getElem? (i := 325) (by decide +kernel)
  | 3, _ => exact List.mem_of_getElem? (i := 326) (by decide +kernel)
theorem mj_sw_56 : mj_SW 56 := by
  refine ⟨List.mem_of_getElem? (i := 327) (by decide +kernel), List.mem_of_getElem? (i := 328) (by decide +kernel), List.mem_of_getElem? (i := 329) (by decide +kernel), List.mem_of_getElem? (i := 330) (by decide +kernel), ?_⟩
  intro j hj
  have hj : j < 3 := hj
  match j, hj with
  | 0, _ => exact List.mem_of_getElem? (i := 331) (by decide +kernel)
  | 1, _ => exact List.mem_of_getElem? (i := 332) (by decide +kernel)
  | 2, _ => exact List.mem_of_getElem? (i := 333) (by decide +kernel)
theorem mj_sw_57 : mj_SW 57 := by
  refine ⟨List.mem_of_getElem? (i := 334) (by decide +kernel), List.mem_of_getElem? (i := 335) (by decide +kernel), List.mem_of_getElem? (i := 336) (by decide +kernel), List.mem_of_getElem? (i := 337) (by decide +kernel), ?_⟩
  intro j hj
  have hj : j < 4 := hj
  match j, hj with
  | 0, _ => exact List.mem_of_getElem? (i := 338) (by decide +kernel)
  | 1, _ => exact List.mem_of_getElem? (i := 339) (by decide +kernel)
  | 2, _ => exact List.mem_of_getElem? (i := 340) (by decide +kernel)
  | 3, _ => exact List.mem_of_getElem? (i := 341) (by decide +kernel)
theorem mj_sw_58 : mj_SW 58 := by
  refine ⟨List.mem_of_getElem? (i := 451) (by decide +kernel), List.mem_of_getElem? (i := 452) (by decide +kernel), List.mem_of_getElem? (i := 453) (by decide +kernel), List.mem_of_getElem? (i := 454) (by decide +kernel), ?_⟩
  intro j hj
  have hj : j < 2 := hj
  match j, hj with
  | 0, _ => exact List.mem_of_getElem? (i := 455) (by decide +kernel)
  | 1, _ => exact List.mem_of_getElem? (i := 456) (by decide +kernel)
theorem mj_sw_59 : mj_SW 59 := by
  refine ⟨List.mem_of_getElem? (i := 444) (by decide +kernel), List.mem_of_getElem? (i := 445) (by decide +kernel), List.mem_of_getElem? (i := 446) (by decide +kernel), List.mem_of_getElem? (i := 447) (by decide +kernel), ?_⟩
  intro j hj
  have hj : j < 3 := hj
  match j, hj with
  | 0, _ => exact List.mem_of_getElem? (i := 448) (by decide +kernel)
  | 1, _ => exact List.mem_of_getElem? (i := 449) (by decide +kernel)
  | 2, _ => exact List.mem_of_getElem? (i := 450) (by decide +kernel)
theorem mj_sw_60 : mj_SW 60 := by
  refine ⟨List.mem_of_getElem? (i := 348) (by decide +kernel), List.mem_of_getElem? (i := 349) (by decide +kernel), List.mem_of_getElem? (i := 350) (by decide +kernel), List.mem_of_getElem? (i := 351) (by decide +kernel), ?_⟩
  intro j hj
  have hj : j < 3 := hj
  match j, hj with
  | 0, _ => exact List.mem_of_getElem? (i := 352) (by decide +kernel)
  | 1, _ => exact List.mem_of_getElem? (i := 353) (by decide +kernel)
  | 2, _ => exact List.mem_of_getElem? (i := 354) (by decide +kernel)
theorem mj_sw_61 : mj_SW 61 := by
  refine ⟨List.mem_of_getElem? (i := 355) (by decide +kernel), List.mem_of_getElem? (i := 356) (by decide +kernel), List.mem_of_getElem? (i := 357) (by decide +kernel), List.mem_of_getElem? (i := 358) (by decide +kernel), ?_⟩
  intro j hj
  have hj : j < 3 := hj
  match j, hj with
  | 0, _ => exact List.mem_of_getElem? (i := 359) (by decide +kernel)
  | 1, _ => exact List.mem_of_getElem? (i := 360) (by decide +kernel)
  | 2, _ => exact List.mem_of_getElem? (i := 361) (by decide +kernel)
theorem mj_sw_62 : mj_SW 62 := by
  refine ⟨List.mem_of_getElem? (i := 363) (by decide +kernel), List.mem_of_getElem? (i := 364) (by decide +kernel), List.mem_of_getElem? (i := 365) (by decide +kernel), List.mem_of_getElem? (i := 366) (by decide +kernel), ?_⟩
  intro j hj
  have hj : j < 4 := hj
  match j, hj with
  | 0, _ => exact List.mem_of_getElem? (i := 367) (by decide +kernel)
  | 1, _ => exact List.mem_of_getElem? (i := 368) (by decide +kernel)
  | 2, _ => exact List.mem_of_getElem? (i := 369) (by decide +kernel)
  | 3, _ => exact List.mem_of_getElem? (i := 370) (by decide +kernel)
theorem mj_sw_63 : mj_SW 63 := by
  refine ⟨List.mem_of_getElem? (i := 371) (by decide +kernel), List.mem_of_getElem? (i := 372) (by decide +kernel), List.mem_of_getElem? (i := 373) (by decide +kernel), List.mem_of_getElem? (i := 374) (by decide +kernel), ?_⟩
  intro j hj
  have hj : j < 7 := hj
  match j, hj with
  | 0, _ => exact List.mem_of_getElem? (i := 375) (by decide +kernel)
  | 1, _ => exact List.mem_of_getElem? (i := 376) (by decide +kernel)
  | 2, _ => exact List.mem_of_getElem? (i := 377) (by decide +kernel)
  | 3, _ => exact List.mem_of_getElem? (i := 378) (by decide +kernel)
  | 4, _ => exact List.mem_of_getElem? (i := 379) (by decide +kernel)
  | 5, _ => exact List.mem_of_getElem? (i := 380) (by decide +kernel)
  | 6, _ => exact List.mem_of_getElem? (i := 381) (by decide +kernel)
theorem mj_sw_64 : mj_SW 64 := by
  refine ⟨List.mem_of_getElem? (i := 382) (by decide +kernel), List.mem_of_getElem? (i := 383) (by decide +kernel), List.mem_of_getElem? (i := 384) (by decide +kernel), List.mem_of_getElem? (i := 385) (by decide +kernel), ?_⟩
  intro j hj
  have hj : j < 3 := hj
  match j, hj with
  | 0, _ => exact List.mem_of_getElem? (i := 386) (by decide +kernel)
  | 1, _ => exact List.mem_of_getElem? (i := 387) (by decide +kernel)
  | 2, _ => exact List.mem_of_getElem? (i := 388) (by decide +kernel)
theorem mj_sw_65 : mj_SW 65 := by
  refine ⟨List.mem_of_getElem? (i := 390) (by decide +kernel), List.mem_of_getElem? (i := 391) (by decide +kernel), List.mem_of_getElem? (i := 392) (by decide +kernel), List.mem_of_getElem? (i := 393) (by decide +kernel), ?_⟩
  intro j hj
  have hj : j < 4 := hj
  match j, hj with
  | 0, _ => exact List.mem_of_getElem? (i := 394) (by decide +kernel)
  | 1, _ => exact List.mem_of_getElem? (i := 395) (by decide +kernel)
  | 2, _ => exact List.mem_of_getElem? (i := 396) (by decide +kernel)
  | 3, _ => exact List.mem_of_getElem? (i := 397) (by decide +kernel)
theorem mj_sw_66 : mj_SW 66 := by
  refine ⟨List.mem_of_getElem? (i := 398) (by decide +kernel), List.mem_of_getElem? (i := 399) (by decide +kernel), List.mem_of_getElem? (i := 400) (by decide +kernel), List.mem_of_getElem? (i := 401) (by decide +kernel), ?_⟩
  intro j hj
  have hj : j < 3 := hj
  match j, hj with
  | 0, _ => exact List.mem_of_getElem? (i := 402) (by decide +kernel)
  | 1, _ => exact List.mem_of_getElem? (i := 403) (by decide +kernel)
  | 2, _ => exact List.mem_of_getElem? (i := 404) (by decide +kernel)
theorem mj_sw_67 : mj_SW 67 := by
  refine ⟨List.mem_of_getElem? (i := 406) (by decide +kernel), List.mem_of_getElem? (i := 407) (by decide +kernel), List.mem_of_getElem? (i := 408) (by decide +kernel), List.mem_of_getElem? (i := 409) (by decide +kernel), ?_⟩
  intro j hj
  have hj : j < 6 := hj
  match j, hj with
  | 0, _ => exact List.mem_of_getElem? (i := 410) (by decide +kernel)
  | 1, _ => exact List.mem_of_getElem? (i := 411) (by decide +kernel)
  | 2, _ => exact List.mem_of_getElem? (i := 412) (by decide +kernel)
  | 3, _ => exact List.mem_of_getElem? (i := 413) (by decide +kernel)
  | 4, _ => exact List.mem_of_getElem? (i := 414) (by decide +kernel)
  | 5, _ => exact List.mem_of_getElem? (i := 415) (by decide +kernel)
theorem mj_sw_68 : mj_SW 68 := by
  refine ⟨List.mem_of_getElem? (i := 417) (by decide +kernel), List.mem_of_getElem? (i := 418) (by decide +kernel), List.mem_of_getElem? (i := 419) (by decide +kernel), List.mem_of_getElem? (i := 420) (by decide +kernel), ?_⟩
  intro j hj
  have hj : j < 4 := hj
  match j, hj with
  | 0, _ => exact List.mem_of_getElem? (i := 421) (by decide +kernel)
  | 1, _ => exact List.mem_of_getElem? (i := 422) (by decide +kernel)
  | 2, _ => exact List.mem_of_getElem? (i := 423) (by decide +kernel)
  | 3, _ => exact List.mem_of_getElem? (i := 424) (by decide +kernel)
theorem mj_sw_69 : mj_SW 69 := by
  refine ⟨List.mem_of_getElem? (i := 426) (by decide +kernel), List.mem_of_getElem? (i := 427) (by decide +kernel), List.mem_of_getElem? (i := 428) (by decide +kernel), List.mem_of_getElem? (i := 429) (by decide +kernel), ?_⟩
  intro j hj
  have hj : j < 4 := hj
  match j, hj with
  | 0, _ => exact List.mem_of_getElem? (i := 430) (by decide +kernel)
  | 1, _ => exact List.mem_of_getElem? (i := 431) (by decide +kernel)
  | 2, _ => exact List.mem_of_getElem? (i := 432) (by decide +kernel)
  | 3, _ => exact List.mem_of_getElem? (i := 433) (by decide +kernel)
theorem mj_sw_70 : mj_SW 70 := by
  refine ⟨List.mem_of_getElem? (i := 435) (by decide +kernel), List.mem_of_getElem? (i := 436) (by decide +kernel), List.mem_of_getElem? (i := 437) (by decide +kernel), List.mem_of_getElem? (i := 438) (by decide +kernel), ?_⟩
  intro j hj
  have hj : j < 4 := hj
  match j, hj with
  | 0, _ => exact List.mem_of_getElem? (i := 439) (by decide +kernel)
  | 1, _ => exact List.mem_of_getElem? (i := 440) (by decide +kernel)
  | 2, _ => exact List.mem_of_getElem? (i := 441) (by decide +kernel)
  | 3, _ => exact List.mem_of_getElem? (i := 442) (by decide +kernel)
theorem mj_SW_all : ∀ t, t < 71 → mj_SW t := by
  intro t ht
  match t, ht with
  | 0, _ => exact mj_sw_0
  | 1, _ => exact mj_sw_1
  | 2, _ => exact mj_sw_2
  | 3, _ => exact mj_sw_3
  | 4, _ => exact mj_sw_4
  | 5, _ => exact mj_sw_5
  | 6, _ => exact mj_sw_6
  | 7, _ => exact mj_sw_7
  | 8, _ => exact mj_sw_8
  | 9, _ => exact mj_sw_9
  | 10, _ => exact mj_sw_10
  | 11, _ => exact mj_sw_11
  | 12, _ => exact mj_sw_12
  | 13, _ => exact mj_sw_13
  | 14, _ => exact mj_sw_14
  | 15, _ => exact mj_sw_15
  | 16, _ => exact mj_sw_16
  | 17, _ => exact mj_sw_17
  | 18, _ => exact mj_sw_18
  | 19, _ => exact mj_sw_19
  | 20, _ => exact mj_sw_20
  | 21, _ => exact mj_sw_21
  | 22, _ => exact mj_sw_22
  | 23, _ => exact mj_sw_23
  | 24, _ => exact mj_sw_24
  | 25, _ => exact mj_sw_25
  | 26, _ => exact mj_sw_26
  | 27, _ => exact mj_sw_27
  | 28, _ => exact mj_sw_28
  | 29, _ => exact mj_sw_29
  | 30, _ => exact mj_sw_30
  | 31, _ => exact mj_sw_31
  | 32, _ => exact mj_sw_32
  | 33, _ => exact mj_sw_33
  | 34, _ => exact mj_sw_34
  | 35, _ => exact mj_sw_35
  | 36, _ => exact mj_sw_36
  | 37, _ => exact mj_sw_37
  | 38, _ => exact mj_sw_38
  | 39, _ => exact mj_sw_39
  | 40, _ => exact mj_sw_40
  | 41, _ => exact mj_sw_41
  | 42, _ => exact mj_sw_42
  | 43, _ => exact mj_sw_43
  | 44, _ => exact mj_sw_44
  | 45, _ => exact mj_sw_45
  | 46, _ => exact mj_sw_46
  | 47, _ => exact mj_sw_47
  | 48, _ => exact mj_sw_48
  | 49, _ => exact mj_sw_49
  | 50, _ => exact mj_sw_50
  | 51, _ => exact mj_sw_51
  | 52, _ => exact mj_sw_52
  | 53, _ => exact mj_sw_53
  | 54, _ => exact mj_sw_54
  | 55, _ => exact mj_sw_55
  | 56, _ => exact mj_sw_56
  | 57, _ => exact mj_sw_57
  | 58, _ => exact mj_sw_58
  | 59, _ => exact mj_sw_59
  | 60, _ => exact mj_sw_60
  | 61, _ => exact mj_sw_61
  | 62, _ => exact mj_sw_62
  | 63, _ => exact mj_sw_63
  | 64, _ => exact mj_sw_64
  | 65, _ => exact mj_sw_65
  | 66, _ => exact mj_sw_66
  | 67, _ => exact mj_sw_67
  | 68, _ => exact mj_sw_68
  | 69, _ => exact mj_sw_69
  | 70, _ => exact mj_sw_70
  | n + 71, h => omega

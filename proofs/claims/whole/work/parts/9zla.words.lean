set_option maxRecDepth 100000 in
theorem mw_468 : (Cond.methodLink "BroadcastCarouselLaw" (177 : Nat) ({ cls := "BroadcastCarousel", name := "load", desc := "()I" } : MethodName)) ∈ bc_wd := bc_mem 468 (by rfl) (by decide +kernel)
set_option maxRecDepth 100000 in
theorem mw_469 : (Cond.instanceMethod ({ cls := "BroadcastCarousel", name := "load", desc := "()I" } : MethodName)) ∈ bc_wd := bc_mem 469 (by rfl) (by decide +kernel)
set_option maxRecDepth 100000 in
theorem mw_470 : (Cond.selects "BroadcastCarousel" ({ cls := "BroadcastCarousel", name := "load", desc := "()I" } : MethodName) ({ cls := "BroadcastCarousel", name := "load", desc := "()I" } : MethodName)) ∈ bc_wd := bc_mem 470 (by rfl) (by decide +kernel)
set_option maxRecDepth 100000 in
theorem mw_471 : (Cond.code ({ cls := "BroadcastCarousel", name := "load", desc := "()I" } : MethodName) prog_1_method_5_code (3 : Nat) (Option.some ClassFile.FieldType.int)) ∈ bc_wd := bc_mem 471 (by rfl) (by decide +kernel)
set_option maxRecDepth 100000 in
theorem mw_673 : (Cond.methodLink "BroadcastCarouselLaw" (181 : Nat) ({ cls := "BroadcastCarousel", name := "errorPosition", desc := "()I" } : MethodName)) ∈ bc_wd := bc_mem 673 (by rfl) (by decide +kernel)
set_option maxRecDepth 100000 in
theorem mw_674 : (Cond.instanceMethod ({ cls := "BroadcastCarousel", name := "errorPosition", desc := "()I" } : MethodName)) ∈ bc_wd := bc_mem 674 (by rfl) (by decide +kernel)
set_option maxRecDepth 100000 in
theorem mw_675 : (Cond.selects "BroadcastCarousel" ({ cls := "BroadcastCarousel", name := "errorPosition", desc := "()I" } : MethodName) ({ cls := "BroadcastCarousel", name := "errorPosition", desc := "()I" } : MethodName)) ∈ bc_wd := bc_mem 675 (by rfl) (by decide +kernel)
set_option maxRecDepth 100000 in
theorem mw_676 : (Cond.code ({ cls := "BroadcastCarousel", name := "errorPosition", desc := "()I" } : MethodName) prog_1_method_6_code (1 : Nat) (Option.some ClassFile.FieldType.int)) ∈ bc_wd := bc_mem 676 (by rfl) (by decide +kernel)
set_option maxRecDepth 100000 in
theorem mw_677 : (Cond.methodLink "BroadcastCarouselLaw" (164 : Nat) ({ cls := "BroadcastCarouselLaw", name := "append", desc := "(LBroadcastCarousel;IIIII[J)I" } : MethodName)) ∈ bc_wd := bc_mem 677 (by rfl) (by decide +kernel)
set_option maxRecDepth 100000 in
theorem mw_678 : (Cond.static ({ cls := "BroadcastCarouselLaw", name := "append", desc := "(LBroadcastCarousel;IIIII[J)I" } : MethodName)) ∈ bc_wd := bc_mem 678 (by rfl) (by decide +kernel)
set_option maxRecDepth 100000 in
theorem mw_104 : (Cond.initialized "BroadcastCarouselLaw") ∈ bc_wd := bc_mem 104 (by rfl) (by decide +kernel)
set_option maxRecDepth 100000 in
theorem mw_679 : (Cond.codeWith ({ cls := "BroadcastCarouselLaw", name := "append", desc := "(LBroadcastCarousel;IIIII[J)I" } : MethodName) method_3_code (8 : Nat) (Option.some ClassFile.FieldType.int) [((0 : Nat), (16 : Nat), (19 : Nat), (13 : Nat))]) ∈ bc_wd := bc_mem 679 (by rfl) (by decide +kernel)
set_option maxRecDepth 100000 in
theorem mw_681 : (Cond.methodLink "BroadcastCarouselLaw" (7 : Nat) ({ cls := "BroadcastCarousel", name := "append", desc := "(IIIII)I" } : MethodName)) ∈ bc_wd := bc_mem 681 (by rfl) (by decide +kernel)
set_option maxRecDepth 100000 in
theorem mw_682 : (Cond.instanceMethod ({ cls := "BroadcastCarousel", name := "append", desc := "(IIIII)I" } : MethodName)) ∈ bc_wd := bc_mem 682 (by rfl) (by decide +kernel)
set_option maxRecDepth 100000 in
theorem mw_683 : (Cond.selects "BroadcastCarousel" ({ cls := "BroadcastCarousel", name := "append", desc := "(IIIII)I" } : MethodName) ({ cls := "BroadcastCarousel", name := "append", desc := "(IIIII)I" } : MethodName)) ∈ bc_wd := bc_mem 683 (by rfl) (by decide +kernel)
set_option maxRecDepth 100000 in
theorem mw_684 : (Cond.code ({ cls := "BroadcastCarousel", name := "append", desc := "(IIIII)I" } : MethodName) prog_1_method_2_code (6 : Nat) (Option.some ClassFile.FieldType.int)) ∈ bc_wd := bc_mem 684 (by rfl) (by decide +kernel)
set_option maxRecDepth 100000 in
theorem mw_756 : (Cond.methodLink "BroadcastCarouselLaw" (173 : Nat) ({ cls := "BroadcastCarouselLaw", name := "truncate", desc := "(LBroadcastCarousel;I[J)I" } : MethodName)) ∈ bc_wd := bc_mem 756 (by rfl) (by decide +kernel)
set_option maxRecDepth 100000 in
theorem mw_757 : (Cond.static ({ cls := "BroadcastCarouselLaw", name := "truncate", desc := "(LBroadcastCarousel;I[J)I" } : MethodName)) ∈ bc_wd := bc_mem 757 (by rfl) (by decide +kernel)
set_option maxRecDepth 100000 in
theorem mw_758 : (Cond.codeWith ({ cls := "BroadcastCarouselLaw", name := "truncate", desc := "(LBroadcastCarousel;I[J)I" } : MethodName) method_4_code (4 : Nat) (Option.some ClassFile.FieldType.int) [((0 : Nat), (9 : Nat), (12 : Nat), (19 : Nat))]) ∈ bc_wd := bc_mem 758 (by rfl) (by decide +kernel)
set_option maxRecDepth 100000 in
theorem mw_760 : (Cond.methodLink "BroadcastCarouselLaw" (15 : Nat) ({ cls := "BroadcastCarousel", name := "truncate", desc := "(I)I" } : MethodName)) ∈ bc_wd := bc_mem 760 (by rfl) (by decide +kernel)
set_option maxRecDepth 100000 in
theorem mw_761 : (Cond.instanceMethod ({ cls := "BroadcastCarousel", name := "truncate", desc := "(I)I" } : MethodName)) ∈ bc_wd := bc_mem 761 (by rfl) (by decide +kernel)
set_option maxRecDepth 100000 in
theorem mw_762 : (Cond.selects "BroadcastCarousel" ({ cls := "BroadcastCarousel", name := "truncate", desc := "(I)I" } : MethodName) ({ cls := "BroadcastCarousel", name := "truncate", desc := "(I)I" } : MethodName)) ∈ bc_wd := bc_mem 762 (by rfl) (by decide +kernel)
set_option maxRecDepth 100000 in
theorem mw_763 : (Cond.code ({ cls := "BroadcastCarousel", name := "truncate", desc := "(I)I" } : MethodName) prog_1_method_4_code (2 : Nat) (Option.some ClassFile.FieldType.int)) ∈ bc_wd := bc_mem 763 (by rfl) (by decide +kernel)
set_option maxRecDepth 100000 in
theorem mw_783 : (Cond.methodLink "BroadcastCarouselLaw" (185 : Nat) ({ cls := "BroadcastCarouselLaw", name := "request", desc := "(LBroadcastCarousel;II[J)I" } : MethodName)) ∈ bc_wd := bc_mem 783 (by rfl) (by decide +kernel)
set_option maxRecDepth 100000 in
theorem mw_784 : (Cond.static ({ cls := "BroadcastCarouselLaw", name := "request", desc := "(LBroadcastCarousel;II[J)I" } : MethodName)) ∈ bc_wd := bc_mem 784 (by rfl) (by decide +kernel)
set_option maxRecDepth 100000 in
theorem mw_785 : (Cond.codeWith ({ cls := "BroadcastCarouselLaw", name := "request", desc := "(LBroadcastCarousel;II[J)I" } : MethodName) method_5_code (5 : Nat) (Option.some ClassFile.FieldType.int) [((0 : Nat), (10 : Nat), (13 : Nat), (13 : Nat)), ((0 : Nat), (10 : Nat), (17 : Nat), (19 : Nat))]) ∈ bc_wd := bc_mem 785 (by rfl) (by decide +kernel)
set_option maxRecDepth 100000 in
theorem mw_786 : (Cond.methodLink "BroadcastCarouselLaw" (21 : Nat) ({ cls := "BroadcastCarousel", name := "request", desc := "(II)I" } : MethodName)) ∈ bc_wd := bc_mem 786 (by rfl) (by decide +kernel)
set_option maxRecDepth 100000 in
theorem mw_787 : (Cond.instanceMethod ({ cls := "BroadcastCarousel", name := "request", desc := "(II)I" } : MethodName)) ∈ bc_wd := bc_mem 787 (by rfl) (by decide +kernel)
set_option maxRecDepth 100000 in
theorem mw_788 : (Cond.selects "BroadcastCarousel" ({ cls := "BroadcastCarousel", name := "request", desc := "(II)I" } : MethodName) ({ cls := "BroadcastCarousel", name := "request", desc := "(II)I" } : MethodName)) ∈ bc_wd := bc_mem 788 (by rfl) (by decide +kernel)
set_option maxRecDepth 100000 in
theorem mw_789 : (Cond.code ({ cls := "BroadcastCarousel", name := "request", desc := "(II)I" } : MethodName) prog_1_method_7_code (3 : Nat) (Option.some ClassFile.FieldType.int)) ∈ bc_wd := bc_mem 789 (by rfl) (by decide +kernel)
set_option maxRecDepth 100000 in
theorem mw_869 : (Cond.methodLink "BroadcastCarouselLaw" (189 : Nat) ({ cls := "BroadcastCarouselLaw", name := "think", desc := "(LBroadcastCarousel;II[J)I" } : MethodName)) ∈ bc_wd := bc_mem 869 (by rfl) (by decide +kernel)
set_option maxRecDepth 100000 in
theorem mw_870 : (Cond.static ({ cls := "BroadcastCarouselLaw", name := "think", desc := "(LBroadcastCarousel;II[J)I" } : MethodName)) ∈ bc_wd := bc_mem 870 (by rfl) (by decide +kernel)
set_option maxRecDepth 100000 in
theorem mw_871 : (Cond.codeWith ({ cls := "BroadcastCarouselLaw", name := "think", desc := "(LBroadcastCarousel;II[J)I" } : MethodName) method_6_code (5 : Nat) (Option.some ClassFile.FieldType.int) [((0 : Nat), (10 : Nat), (13 : Nat), (13 : Nat)), ((0 : Nat), (10 : Nat), (17 : Nat), (19 : Nat))]) ∈ bc_wd := bc_mem 871 (by rfl) (by decide +kernel)
set_option maxRecDepth 100000 in
theorem mw_872 : (Cond.methodLink "BroadcastCarouselLaw" (25 : Nat) ({ cls := "BroadcastCarousel", name := "think", desc := "(II)I" } : MethodName)) ∈ bc_wd := bc_mem 872 (by rfl) (by decide +kernel)
set_option maxRecDepth 100000 in
theorem mw_873 : (Cond.instanceMethod ({ cls := "BroadcastCarousel", name := "think", desc := "(II)I" } : MethodName)) ∈ bc_wd := bc_mem 873 (by rfl) (by decide +kernel)
set_option maxRecDepth 100000 in
theorem mw_874 : (Cond.selects "BroadcastCarousel" ({ cls := "BroadcastCarousel", name := "think", desc := "(II)I" } : MethodName) ({ cls := "BroadcastCarousel", name := "think", desc := "(II)I" } : MethodName)) ∈ bc_wd := bc_mem 874 (by rfl) (by decide +kernel)
set_option maxRecDepth 100000 in
theorem mw_875 : (Cond.code ({ cls := "BroadcastCarousel", name := "think", desc := "(II)I" } : MethodName) prog_1_method_8_code (4 : Nat) (Option.some ClassFile.FieldType.int)) ∈ bc_wd := bc_mem 875 (by rfl) (by decide +kernel)
set_option maxRecDepth 100000 in
theorem mw_876 : (Cond.methodLink "BroadcastCarouselLaw" (192 : Nat) ({ cls := "BroadcastCarouselLaw", name := "setPopularity", desc := "(LBroadcastCarousel;II[J)I" } : MethodName)) ∈ bc_wd := bc_mem 876 (by rfl) (by decide +kernel)
set_option maxRecDepth 100000 in
theorem mw_877 : (Cond.static ({ cls := "BroadcastCarouselLaw", name := "setPopularity", desc := "(LBroadcastCarousel;II[J)I" } : MethodName)) ∈ bc_wd := bc_mem 877 (by rfl) (by decide +kernel)
set_option maxRecDepth 100000 in
theorem mw_878 : (Cond.codeWith ({ cls := "BroadcastCarouselLaw", name := "setPopularity", desc := "(LBroadcastCarousel;II[J)I" } : MethodName) method_7_code (5 : Nat) (Option.some ClassFile.FieldType.int) [((0 : Nat), (10 : Nat), (13 : Nat), (13 : Nat)), ((0 : Nat), (10 : Nat), (17 : Nat), (19 : Nat))]) ∈ bc_wd := bc_mem 878 (by rfl) (by decide +kernel)
set_option maxRecDepth 100000 in
theorem mw_879 : (Cond.methodLink "BroadcastCarouselLaw" (28 : Nat) ({ cls := "BroadcastCarousel", name := "setPopularity", desc := "(II)I" } : MethodName)) ∈ bc_wd := bc_mem 879 (by rfl) (by decide +kernel)
set_option maxRecDepth 100000 in
theorem mw_880 : (Cond.instanceMethod ({ cls := "BroadcastCarousel", name := "setPopularity", desc := "(II)I" } : MethodName)) ∈ bc_wd := bc_mem 880 (by rfl) (by decide +kernel)
set_option maxRecDepth 100000 in
theorem mw_881 : (Cond.selects "BroadcastCarousel" ({ cls := "BroadcastCarousel", name := "setPopularity", desc := "(II)I" } : MethodName) ({ cls := "BroadcastCarousel", name := "setPopularity", desc := "(II)I" } : MethodName)) ∈ bc_wd := bc_mem 881 (by rfl) (by decide +kernel)
set_option maxRecDepth 100000 in
theorem mw_882 : (Cond.code ({ cls := "BroadcastCarousel", name := "setPopularity", desc := "(II)I" } : MethodName) prog_1_method_9_code (4 : Nat) (Option.some ClassFile.FieldType.int)) ∈ bc_wd := bc_mem 882 (by rfl) (by decide +kernel)
set_option maxRecDepth 100000 in
theorem mw_883 : (Cond.methodLink "BroadcastCarouselLaw" (195 : Nat) ({ cls := "BroadcastCarouselLaw", name := "setBound", desc := "(LBroadcastCarousel;II[J)I" } : MethodName)) ∈ bc_wd := bc_mem 883 (by rfl) (by decide +kernel)
set_option maxRecDepth 100000 in
theorem mw_884 : (Cond.static ({ cls := "BroadcastCarouselLaw", name := "setBound", desc := "(LBroadcastCarousel;II[J)I" } : MethodName)) ∈ bc_wd := bc_mem 884 (by rfl) (by decide +kernel)
set_option maxRecDepth 100000 in
theorem mw_885 : (Cond.codeWith ({ cls := "BroadcastCarouselLaw", name := "setBound", desc := "(LBroadcastCarousel;II[J)I" } : MethodName) method_8_code (5 : Nat) (Option.some ClassFile.FieldType.int) [((0 : Nat), (10 : Nat), (13 : Nat), (13 : Nat)), ((0 : Nat), (10 : Nat), (17 : Nat), (19 : Nat))]) ∈ bc_wd := bc_mem 885 (by rfl) (by decide +kernel)
set_option maxRecDepth 100000 in
theorem mw_886 : (Cond.methodLink "BroadcastCarouselLaw" (31 : Nat) ({ cls := "BroadcastCarousel", name := "setBound", desc := "(II)I" } : MethodName)) ∈ bc_wd := bc_mem 886 (by rfl) (by decide +kernel)
set_option maxRecDepth 100000 in
theorem mw_887 : (Cond.instanceMethod ({ cls := "BroadcastCarousel", name := "setBound", desc := "(II)I" } : MethodName)) ∈ bc_wd := bc_mem 887 (by rfl) (by decide +kernel)
set_option maxRecDepth 100000 in
theorem mw_888 : (Cond.selects "BroadcastCarousel" ({ cls := "BroadcastCarousel", name := "setBound", desc := "(II)I" } : MethodName) ({ cls := "BroadcastCarousel", name := "setBound", desc := "(II)I" } : MethodName)) ∈ bc_wd := bc_mem 888 (by rfl) (by decide +kernel)
set_option maxRecDepth 100000 in
theorem mw_889 : (Cond.code ({ cls := "BroadcastCarousel", name := "setBound", desc := "(II)I" } : MethodName) prog_1_method_10_code (4 : Nat) (Option.some ClassFile.FieldType.int)) ∈ bc_wd := bc_mem 889 (by rfl) (by decide +kernel)
set_option maxRecDepth 100000 in
theorem mw_890 : (Cond.methodLink "BroadcastCarouselLaw" (198 : Nat) ({ cls := "BroadcastCarouselLaw", name := "setFrequency", desc := "(LBroadcastCarousel;II[J)I" } : MethodName)) ∈ bc_wd := bc_mem 890 (by rfl) (by decide +kernel)
set_option maxRecDepth 100000 in
theorem mw_891 : (Cond.static ({ cls := "BroadcastCarouselLaw", name := "setFrequency", desc := "(LBroadcastCarousel;II[J)I" } : MethodName)) ∈ bc_wd := bc_mem 891 (by rfl) (by decide +kernel)
set_option maxRecDepth 100000 in
theorem mw_892 : (Cond.codeWith ({ cls := "BroadcastCarouselLaw", name := "setFrequency", desc := "(LBroadcastCarousel;II[J)I" } : MethodName) method_9_code (5 : Nat) (Option.some ClassFile.FieldType.int) [((0 : Nat), (10 : Nat), (13 : Nat), (13 : Nat)), ((0 : Nat), (10 : Nat), (17 : Nat), (19 : Nat))]) ∈ bc_wd := bc_mem 892 (by rfl) (by decide +kernel)
set_option maxRecDepth 100000 in
theorem mw_893 : (Cond.methodLink "BroadcastCarouselLaw" (34 : Nat) ({ cls := "BroadcastCarousel", name := "setFrequency", desc := "(II)I" } : MethodName)) ∈ bc_wd := bc_mem 893 (by rfl) (by decide +kernel)
set_option maxRecDepth 100000 in
theorem mw_894 : (Cond.instanceMethod ({ cls := "BroadcastCarousel", name := "setFrequency", desc := "(II)I" } : MethodName)) ∈ bc_wd := bc_mem 894 (by rfl) (by decide +kernel)
set_option maxRecDepth 100000 in
theorem mw_895 : (Cond.selects "BroadcastCarousel" ({ cls := "BroadcastCarousel", name := "setFrequency", desc := "(II)I" } : MethodName) ({ cls := "BroadcastCarousel", name := "setFrequency", desc := "(II)I" } : MethodName)) ∈ bc_wd := bc_mem 895 (by rfl) (by decide +kernel)
set_option maxRecDepth 100000 in
theorem mw_896 : (Cond.code ({ cls := "BroadcastCarousel", name := "setFrequency", desc := "(II)I" } : MethodName) prog_1_method_11_code (4 : Nat) (Option.some ClassFile.FieldType.int)) ∈ bc_wd := bc_mem 896 (by rfl) (by decide +kernel)
set_option maxRecDepth 100000 in
theorem mw_901 : (Cond.methodLink "BroadcastCarouselLaw" (201 : Nat) ({ cls := "BroadcastCarouselLaw", name := "setIndex", desc := "(LBroadcastCarousel;II[J)I" } : MethodName)) ∈ bc_wd := bc_mem 901 (by rfl) (by decide +kernel)
set_option maxRecDepth 100000 in
theorem mw_902 : (Cond.static ({ cls := "BroadcastCarouselLaw", name := "setIndex", desc := "(LBroadcastCarousel;II[J)I" } : MethodName)) ∈ bc_wd := bc_mem 902 (by rfl) (by decide +kernel)
set_option maxRecDepth 100000 in
theorem mw_903 : (Cond.codeWith ({ cls := "BroadcastCarouselLaw", name := "setIndex", desc := "(LBroadcastCarousel;II[J)I" } : MethodName) method_10_code (5 : Nat) (Option.some ClassFile.FieldType.int) [((0 : Nat), (10 : Nat), (13 : Nat), (13 : Nat)), ((0 : Nat), (10 : Nat), (17 : Nat), (19 : Nat))]) ∈ bc_wd := bc_mem 903 (by rfl) (by decide +kernel)
set_option maxRecDepth 100000 in
theorem mw_904 : (Cond.methodLink "BroadcastCarouselLaw" (37 : Nat) ({ cls := "BroadcastCarousel", name := "setIndex", desc := "(II)I" } : MethodName)) ∈ bc_wd := bc_mem 904 (by rfl) (by decide +kernel)
set_option maxRecDepth 100000 in
theorem mw_905 : (Cond.instanceMethod ({ cls := "BroadcastCarousel", name := "setIndex", desc := "(II)I" } : MethodName)) ∈ bc_wd := bc_mem 905 (by rfl) (by decide +kernel)
set_option maxRecDepth 100000 in
theorem mw_906 : (Cond.selects "BroadcastCarousel" ({ cls := "BroadcastCarousel", name := "setIndex", desc := "(II)I" } : MethodName) ({ cls := "BroadcastCarousel", name := "setIndex", desc := "(II)I" } : MethodName)) ∈ bc_wd := bc_mem 906 (by rfl) (by decide +kernel)
set_option maxRecDepth 100000 in
theorem mw_907 : (Cond.code ({ cls := "BroadcastCarousel", name := "setIndex", desc := "(II)I" } : MethodName) prog_1_method_12_code (3 : Nat) (Option.some ClassFile.FieldType.int)) ∈ bc_wd := bc_mem 907 (by rfl) (by decide +kernel)
set_option maxRecDepth 100000 in
theorem mw_908 : (Cond.methodLink "BroadcastCarouselLaw" (204 : Nat) ({ cls := "BroadcastCarouselLaw", name := "moveItem", desc := "(LBroadcastCarousel;II[J)I" } : MethodName)) ∈ bc_wd := bc_mem 908 (by rfl) (by decide +kernel)
set_option maxRecDepth 100000 in
theorem mw_909 : (Cond.static ({ cls := "BroadcastCarouselLaw", name := "moveItem", desc := "(LBroadcastCarousel;II[J)I" } : MethodName)) ∈ bc_wd := bc_mem 909 (by rfl) (by decide +kernel)
set_option maxRecDepth 100000 in
theorem mw_910 : (Cond.codeWith ({ cls := "BroadcastCarouselLaw", name := "moveItem", desc := "(LBroadcastCarousel;II[J)I" } : MethodName) method_11_code (5 : Nat) (Option.some ClassFile.FieldType.int) [((0 : Nat), (10 : Nat), (13 : Nat), (13 : Nat)), ((0 : Nat), (10 : Nat), (17 : Nat), (19 : Nat))]) ∈ bc_wd := bc_mem 910 (by rfl) (by decide +kernel)
set_option maxRecDepth 100000 in
theorem mw_911 : (Cond.methodLink "BroadcastCarouselLaw" (40 : Nat) ({ cls := "BroadcastCarousel", name := "moveItem", desc := "(II)I" } : MethodName)) ∈ bc_wd := bc_mem 911 (by rfl) (by decide +kernel)
set_option maxRecDepth 100000 in
theorem mw_912 : (Cond.instanceMethod ({ cls := "BroadcastCarousel", name := "moveItem", desc := "(II)I" } : MethodName)) ∈ bc_wd := bc_mem 912 (by rfl) (by decide +kernel)
set_option maxRecDepth 100000 in
theorem mw_913 : (Cond.selects "BroadcastCarousel" ({ cls := "BroadcastCarousel", name := "moveItem", desc := "(II)I" } : MethodName) ({ cls := "BroadcastCarousel", name := "moveItem", desc := "(II)I" } : MethodName)) ∈ bc_wd := bc_mem 913 (by rfl) (by decide +kernel)
set_option maxRecDepth 100000 in
theorem mw_914 : (Cond.code ({ cls := "BroadcastCarousel", name := "moveItem", desc := "(II)I" } : MethodName) prog_1_method_13_code (4 : Nat) (Option.some ClassFile.FieldType.int)) ∈ bc_wd := bc_mem 914 (by rfl) (by decide +kernel)
set_option maxRecDepth 100000 in
theorem mw_915 : (Cond.methodLink "BroadcastCarouselLaw" (207 : Nat) ({ cls := "BroadcastCarouselLaw", name := "repair", desc := "(LBroadcastCarousel;[J)I" } : MethodName)) ∈ bc_wd := bc_mem 915 (by rfl) (by decide +kernel)
set_option maxRecDepth 100000 in
theorem mw_916 : (Cond.static ({ cls := "BroadcastCarouselLaw", name := "repair", desc := "(LBroadcastCarousel;[J)I" } : MethodName)) ∈ bc_wd := bc_mem 916 (by rfl) (by decide +kernel)
set_option maxRecDepth 100000 in
theorem mw_917 : (Cond.codeWith ({ cls := "BroadcastCarouselLaw", name := "repair", desc := "(LBroadcastCarousel;[J)I" } : MethodName) method_12_code (3 : Nat) (Option.some ClassFile.FieldType.int) [((0 : Nat), (8 : Nat), (11 : Nat), (13 : Nat))]) ∈ bc_wd := bc_mem 917 (by rfl) (by decide +kernel)
set_option maxRecDepth 100000 in
theorem mw_918 : (Cond.methodLink "BroadcastCarouselLaw" (43 : Nat) ({ cls := "BroadcastCarousel", name := "repair", desc := "()I" } : MethodName)) ∈ bc_wd := bc_mem 918 (by rfl) (by decide +kernel)
set_option maxRecDepth 100000 in
theorem mw_919 : (Cond.instanceMethod ({ cls := "BroadcastCarousel", name := "repair", desc := "()I" } : MethodName)) ∈ bc_wd := bc_mem 919 (by rfl) (by decide +kernel)
set_option maxRecDepth 100000 in
theorem mw_920 : (Cond.selects "BroadcastCarousel" ({ cls := "BroadcastCarousel", name := "repair", desc := "()I" } : MethodName) ({ cls := "BroadcastCarousel", name := "repair", desc := "()I" } : MethodName)) ∈ bc_wd := bc_mem 920 (by rfl) (by decide +kernel)
set_option maxRecDepth 100000 in
theorem mw_921 : (Cond.code ({ cls := "BroadcastCarousel", name := "repair", desc := "()I" } : MethodName) prog_1_method_14_code (1 : Nat) (Option.some ClassFile.FieldType.int)) ∈ bc_wd := bc_mem 921 (by rfl) (by decide +kernel)
set_option maxRecDepth 100000 in
theorem mw_946 : (Cond.methodLink "BroadcastCarouselLaw" (211 : Nat) ({ cls := "BroadcastCarouselLaw", name := "applyTiers", desc := "(LBroadcastCarousel;I[J)I" } : MethodName)) ∈ bc_wd := bc_mem 946 (by rfl) (by decide +kernel)
set_option maxRecDepth 100000 in
theorem mw_947 : (Cond.static ({ cls := "BroadcastCarouselLaw", name := "applyTiers", desc := "(LBroadcastCarousel;I[J)I" } : MethodName)) ∈ bc_wd := bc_mem 947 (by rfl) (by decide +kernel)
set_option maxRecDepth 100000 in
theorem mw_948 : (Cond.codeWith ({ cls := "BroadcastCarouselLaw", name := "applyTiers", desc := "(LBroadcastCarousel;I[J)I" } : MethodName) method_13_code (4 : Nat) (Option.some ClassFile.FieldType.int) [((0 : Nat), (9 : Nat), (12 : Nat), (13 : Nat)), ((0 : Nat), (9 : Nat), (15 : Nat), (19 : Nat))]) ∈ bc_wd := bc_mem 948 (by rfl) (by decide +kernel)
set_option maxRecDepth 100000 in
theorem mw_949 : (Cond.methodLink "BroadcastCarouselLaw" (47 : Nat) ({ cls := "BroadcastCarousel", name := "applyTiers", desc := "(I)I" } : MethodName)) ∈ bc_wd := bc_mem 949 (by rfl) (by decide +kernel)
set_option maxRecDepth 100000 in
theorem mw_950 : (Cond.instanceMethod ({ cls := "BroadcastCarousel", name := "applyTiers", desc := "(I)I" } : MethodName)) ∈ bc_wd := bc_mem 950 (by rfl) (by decide +kernel)
set_option maxRecDepth 100000 in
theorem mw_951 : (Cond.selects "BroadcastCarousel" ({ cls := "BroadcastCarousel", name := "applyTiers", desc := "(I)I" } : MethodName) ({ cls := "BroadcastCarousel", name := "applyTiers", desc := "(I)I" } : MethodName)) ∈ bc_wd := bc_mem 951 (by rfl) (by decide +kernel)
set_option maxRecDepth 100000 in
theorem mw_952 : (Cond.code ({ cls := "BroadcastCarousel", name := "applyTiers", desc := "(I)I" } : MethodName) prog_1_method_15_code (3 : Nat) (Option.some ClassFile.FieldType.int)) ∈ bc_wd := bc_mem 952 (by rfl) (by decide +kernel)
set_option maxRecDepth 100000 in
theorem mw_1007 : (Cond.methodLink "BroadcastCarouselLaw" (214 : Nat) ({ cls := "BroadcastCarouselLaw", name := "itemValue", desc := "(LBroadcastCarousel;II[J)I" } : MethodName)) ∈ bc_wd := bc_mem 1007 (by rfl) (by decide +kernel)
set_option maxRecDepth 100000 in
theorem mw_1008 : (Cond.static ({ cls := "BroadcastCarouselLaw", name := "itemValue", desc := "(LBroadcastCarousel;II[J)I" } : MethodName)) ∈ bc_wd := bc_mem 1008 (by rfl) (by decide +kernel)
set_option maxRecDepth 100000 in
theorem mw_1009 : (Cond.codeWith ({ cls := "BroadcastCarouselLaw", name := "itemValue", desc := "(LBroadcastCarousel;II[J)I" } : MethodName) method_14_code (5 : Nat) (Option.some ClassFile.FieldType.int) [((0 : Nat), (10 : Nat), (13 : Nat), (13 : Nat)), ((0 : Nat), (10 : Nat), (17 : Nat), (19 : Nat))]) ∈ bc_wd := bc_mem 1009 (by rfl) (by decide +kernel)
set_option maxRecDepth 100000 in
theorem mw_1010 : (Cond.methodLink "BroadcastCarouselLaw" (50 : Nat) ({ cls := "BroadcastCarousel", name := "itemValue", desc := "(II)I" } : MethodName)) ∈ bc_wd := bc_mem 1010 (by rfl) (by decide +kernel)
set_option maxRecDepth 100000 in
theorem mw_1011 : (Cond.instanceMethod ({ cls := "BroadcastCarousel", name := "itemValue", desc := "(II)I" } : MethodName)) ∈ bc_wd := bc_mem 1011 (by rfl) (by decide +kernel)
set_option maxRecDepth 100000 in
theorem mw_1012 : (Cond.selects "BroadcastCarousel" ({ cls := "BroadcastCarousel", name := "itemValue", desc := "(II)I" } : MethodName) ({ cls := "BroadcastCarousel", name := "itemValue", desc := "(II)I" } : MethodName)) ∈ bc_wd := bc_mem 1012 (by rfl) (by decide +kernel)
set_option maxRecDepth 100000 in
theorem mw_1013 : (Cond.code ({ cls := "BroadcastCarousel", name := "itemValue", desc := "(II)I" } : MethodName) prog_1_method_16_code (3 : Nat) (Option.some ClassFile.FieldType.int)) ∈ bc_wd := bc_mem 1013 (by rfl) (by decide +kernel)
set_option maxRecDepth 100000 in
theorem mw_1014 : (Cond.methodLink "BroadcastCarouselLaw" (217 : Nat) ({ cls := "BroadcastCarouselLaw", name := "frequency", desc := "(LBroadcastCarousel;I[J)I" } : MethodName)) ∈ bc_wd := bc_mem 1014 (by rfl) (by decide +kernel)
set_option maxRecDepth 100000 in
theorem mw_1015 : (Cond.static ({ cls := "BroadcastCarouselLaw", name := "frequency", desc := "(LBroadcastCarousel;I[J)I" } : MethodName)) ∈ bc_wd := bc_mem 1015 (by rfl) (by decide +kernel)
set_option maxRecDepth 100000 in
theorem mw_1016 : (Cond.codeWith ({ cls := "BroadcastCarouselLaw", name := "frequency", desc := "(LBroadcastCarousel;I[J)I" } : MethodName) method_15_code (4 : Nat) (Option.some ClassFile.FieldType.int) [((0 : Nat), (9 : Nat), (12 : Nat), (13 : Nat)), ((0 : Nat), (9 : Nat), (15 : Nat), (19 : Nat))]) ∈ bc_wd := bc_mem 1016 (by rfl) (by decide +kernel)
set_option maxRecDepth 100000 in
theorem mw_1017 : (Cond.methodLink "BroadcastCarouselLaw" (53 : Nat) ({ cls := "BroadcastCarousel", name := "frequency", desc := "(I)I" } : MethodName)) ∈ bc_wd := bc_mem 1017 (by rfl) (by decide +kernel)
set_option maxRecDepth 100000 in
theorem mw_1018 : (Cond.instanceMethod ({ cls := "BroadcastCarousel", name := "frequency", desc := "(I)I" } : MethodName)) ∈ bc_wd := bc_mem 1018 (by rfl) (by decide +kernel)
set_option maxRecDepth 100000 in
theorem mw_1019 : (Cond.selects "BroadcastCarousel" ({ cls := "BroadcastCarousel", name := "frequency", desc := "(I)I" } : MethodName) ({ cls := "BroadcastCarousel", name := "frequency", desc := "(I)I" } : MethodName)) ∈ bc_wd := bc_mem 1019 (by rfl) (by decide +kernel)
set_option maxRecDepth 100000 in
theorem mw_1020 : (Cond.code ({ cls := "BroadcastCarousel", name := "frequency", desc := "(I)I" } : MethodName) prog_1_method_17_code (2 : Nat) (Option.some ClassFile.FieldType.int)) ∈ bc_wd := bc_mem 1020 (by rfl) (by decide +kernel)
set_option maxRecDepth 100000 in
theorem mw_1021 : (Cond.methodLink "BroadcastCarouselLaw" (220 : Nat) ({ cls := "BroadcastCarouselLaw", name := "itemsOf", desc := "(LBroadcastCarousel;I[J)I" } : MethodName)) ∈ bc_wd := bc_mem 1021 (by rfl) (by decide +kernel)
set_option maxRecDepth 100000 in
theorem mw_1022 : (Cond.static ({ cls := "BroadcastCarouselLaw", name := "itemsOf", desc := "(LBroadcastCarousel;I[J)I" } : MethodName)) ∈ bc_wd := bc_mem 1022 (by rfl) (by decide +kernel)
set_option maxRecDepth 100000 in
theorem mw_1023 : (Cond.codeWith ({ cls := "BroadcastCarouselLaw", name := "itemsOf", desc := "(LBroadcastCarousel;I[J)I" } : MethodName) method_16_code (4 : Nat) (Option.some ClassFile.FieldType.int) [((0 : Nat), (9 : Nat), (12 : Nat), (13 : Nat)), ((0 : Nat), (9 : Nat), (15 : Nat), (19 : Nat))]) ∈ bc_wd := bc_mem 1023 (by rfl) (by decide +kernel)
set_option maxRecDepth 100000 in
theorem mw_1024 : (Cond.methodLink "BroadcastCarouselLaw" (56 : Nat) ({ cls := "BroadcastCarousel", name := "itemsOf", desc := "(I)I" } : MethodName)) ∈ bc_wd := bc_mem 1024 (by rfl) (by decide +kernel)
set_option maxRecDepth 100000 in
theorem mw_1025 : (Cond.instanceMethod ({ cls := "BroadcastCarousel", name := "itemsOf", desc := "(I)I" } : MethodName)) ∈ bc_wd := bc_mem 1025 (by rfl) (by decide +kernel)
set_option maxRecDepth 100000 in
theorem mw_1026 : (Cond.selects "BroadcastCarousel" ({ cls := "BroadcastCarousel", name := "itemsOf", desc := "(I)I" } : MethodName) ({ cls := "BroadcastCarousel", name := "itemsOf", desc := "(I)I" } : MethodName)) ∈ bc_wd := bc_mem 1026 (by rfl) (by decide +kernel)
set_option maxRecDepth 100000 in
theorem mw_1027 : (Cond.code ({ cls := "BroadcastCarousel", name := "itemsOf", desc := "(I)I" } : MethodName) prog_1_method_18_code (4 : Nat) (Option.some ClassFile.FieldType.int)) ∈ bc_wd := bc_mem 1027 (by rfl) (by decide +kernel)
set_option maxRecDepth 100000 in
theorem mw_1028 : (Cond.methodLink "BroadcastCarouselLaw" (223 : Nat) ({ cls := "BroadcastCarouselLaw", name := "cycle", desc := "(LBroadcastCarousel;[J)I" } : MethodName)) ∈ bc_wd := bc_mem 1028 (by rfl) (by decide +kernel)
set_option maxRecDepth 100000 in
theorem mw_1029 : (Cond.static ({ cls := "BroadcastCarouselLaw", name := "cycle", desc := "(LBroadcastCarousel;[J)I" } : MethodName)) ∈ bc_wd := bc_mem 1029 (by rfl) (by decide +kernel)
set_option maxRecDepth 100000 in
theorem mw_1030 : (Cond.codeWith ({ cls := "BroadcastCarouselLaw", name := "cycle", desc := "(LBroadcastCarousel;[J)I" } : MethodName) method_17_code (3 : Nat) (Option.some ClassFile.FieldType.int) [((0 : Nat), (8 : Nat), (11 : Nat), (13 : Nat))]) ∈ bc_wd := bc_mem 1030 (by rfl) (by decide +kernel)
set_option maxRecDepth 100000 in
theorem mw_1031 : (Cond.methodLink "BroadcastCarouselLaw" (59 : Nat) ({ cls := "BroadcastCarousel", name := "cycle", desc := "()I" } : MethodName)) ∈ bc_wd := bc_mem 1031 (by rfl) (by decide +kernel)
set_option maxRecDepth 100000 in
theorem mw_1032 : (Cond.instanceMethod ({ cls := "BroadcastCarousel", name := "cycle", desc := "()I" } : MethodName)) ∈ bc_wd := bc_mem 1032 (by rfl) (by decide +kernel)
set_option maxRecDepth 100000 in
theorem mw_1033 : (Cond.selects "BroadcastCarousel" ({ cls := "BroadcastCarousel", name := "cycle", desc := "()I" } : MethodName) ({ cls := "BroadcastCarousel", name := "cycle", desc := "()I" } : MethodName)) ∈ bc_wd := bc_mem 1033 (by rfl) (by decide +kernel)
set_option maxRecDepth 100000 in
theorem mw_1034 : (Cond.code ({ cls := "BroadcastCarousel", name := "cycle", desc := "()I" } : MethodName) prog_1_method_19_code (1 : Nat) (Option.some ClassFile.FieldType.int)) ∈ bc_wd := bc_mem 1034 (by rfl) (by decide +kernel)
set_option maxRecDepth 100000 in
theorem mw_1035 : (Cond.methodLink "BroadcastCarouselLaw" (226 : Nat) ({ cls := "BroadcastCarouselLaw", name := "slotAt", desc := "(LBroadcastCarousel;I[J)I" } : MethodName)) ∈ bc_wd := bc_mem 1035 (by rfl) (by decide +kernel)
set_option maxRecDepth 100000 in
theorem mw_1036 : (Cond.static ({ cls := "BroadcastCarouselLaw", name := "slotAt", desc := "(LBroadcastCarousel;I[J)I" } : MethodName)) ∈ bc_wd := bc_mem 1036 (by rfl) (by decide +kernel)
set_option maxRecDepth 100000 in
theorem mw_1037 : (Cond.codeWith ({ cls := "BroadcastCarouselLaw", name := "slotAt", desc := "(LBroadcastCarousel;I[J)I" } : MethodName) method_18_code (4 : Nat) (Option.some ClassFile.FieldType.int) [((0 : Nat), (9 : Nat), (12 : Nat), (13 : Nat)), ((0 : Nat), (9 : Nat), (15 : Nat), (19 : Nat))]) ∈ bc_wd := bc_mem 1037 (by rfl) (by decide +kernel)
set_option maxRecDepth 100000 in
theorem mw_1038 : (Cond.methodLink "BroadcastCarouselLaw" (62 : Nat) ({ cls := "BroadcastCarousel", name := "slotAt", desc := "(I)I" } : MethodName)) ∈ bc_wd := bc_mem 1038 (by rfl) (by decide +kernel)
set_option maxRecDepth 100000 in
theorem mw_1039 : (Cond.instanceMethod ({ cls := "BroadcastCarousel", name := "slotAt", desc := "(I)I" } : MethodName)) ∈ bc_wd := bc_mem 1039 (by rfl) (by decide +kernel)
set_option maxRecDepth 100000 in
theorem mw_1040 : (Cond.selects "BroadcastCarousel" ({ cls := "BroadcastCarousel", name := "slotAt", desc := "(I)I" } : MethodName) ({ cls := "BroadcastCarousel", name := "slotAt", desc := "(I)I" } : MethodName)) ∈ bc_wd := bc_mem 1040 (by rfl) (by decide +kernel)
set_option maxRecDepth 100000 in
theorem mw_1041 : (Cond.code ({ cls := "BroadcastCarousel", name := "slotAt", desc := "(I)I" } : MethodName) prog_1_method_20_code (2 : Nat) (Option.some ClassFile.FieldType.int)) ∈ bc_wd := bc_mem 1041 (by rfl) (by decide +kernel)
set_option maxRecDepth 100000 in
theorem mw_1047 : (Cond.methodLink "BroadcastCarouselLaw" (229 : Nat) ({ cls := "BroadcastCarouselLaw", name := "occurrences", desc := "(LBroadcastCarousel;I[J)I" } : MethodName)) ∈ bc_wd := bc_mem 1047 (by rfl) (by decide +kernel)
set_option maxRecDepth 100000 in
theorem mw_1048 : (Cond.static ({ cls := "BroadcastCarouselLaw", name := "occurrences", desc := "(LBroadcastCarousel;I[J)I" } : MethodName)) ∈ bc_wd := bc_mem 1048 (by rfl) (by decide +kernel)
set_option maxRecDepth 100000 in
theorem mw_1049 : (Cond.codeWith ({ cls := "BroadcastCarouselLaw", name := "occurrences", desc := "(LBroadcastCarousel;I[J)I" } : MethodName) method_19_code (4 : Nat) (Option.some ClassFile.FieldType.int) [((0 : Nat), (9 : Nat), (12 : Nat), (13 : Nat)), ((0 : Nat), (9 : Nat), (15 : Nat), (19 : Nat))]) ∈ bc_wd := bc_mem 1049 (by rfl) (by decide +kernel)
set_option maxRecDepth 100000 in
theorem mw_1050 : (Cond.methodLink "BroadcastCarouselLaw" (65 : Nat) ({ cls := "BroadcastCarousel", name := "occurrences", desc := "(I)I" } : MethodName)) ∈ bc_wd := bc_mem 1050 (by rfl) (by decide +kernel)
set_option maxRecDepth 100000 in
theorem mw_1051 : (Cond.instanceMethod ({ cls := "BroadcastCarousel", name := "occurrences", desc := "(I)I" } : MethodName)) ∈ bc_wd := bc_mem 1051 (by rfl) (by decide +kernel)
set_option maxRecDepth 100000 in
theorem mw_1052 : (Cond.selects "BroadcastCarousel" ({ cls := "BroadcastCarousel", name := "occurrences", desc := "(I)I" } : MethodName) ({ cls := "BroadcastCarousel", name := "occurrences", desc := "(I)I" } : MethodName)) ∈ bc_wd := bc_mem 1052 (by rfl) (by decide +kernel)
set_option maxRecDepth 100000 in
theorem mw_1053 : (Cond.code ({ cls := "BroadcastCarousel", name := "occurrences", desc := "(I)I" } : MethodName) prog_1_method_21_code (2 : Nat) (Option.some ClassFile.FieldType.int)) ∈ bc_wd := bc_mem 1053 (by rfl) (by decide +kernel)
set_option maxRecDepth 100000 in
theorem mw_1054 : (Cond.methodLink "BroadcastCarouselLaw" (232 : Nat) ({ cls := "BroadcastCarouselLaw", name := "emptySlots", desc := "(LBroadcastCarousel;[J)I" } : MethodName)) ∈ bc_wd := bc_mem 1054 (by rfl) (by decide +kernel)
set_option maxRecDepth 100000 in
theorem mw_1055 : (Cond.static ({ cls := "BroadcastCarouselLaw", name := "emptySlots", desc := "(LBroadcastCarousel;[J)I" } : MethodName)) ∈ bc_wd := bc_mem 1055 (by rfl) (by decide +kernel)
set_option maxRecDepth 100000 in
theorem mw_1056 : (Cond.codeWith ({ cls := "BroadcastCarouselLaw", name := "emptySlots", desc := "(LBroadcastCarousel;[J)I" } : MethodName) method_20_code (3 : Nat) (Option.some ClassFile.FieldType.int) [((0 : Nat), (8 : Nat), (11 : Nat), (13 : Nat))]) ∈ bc_wd := bc_mem 1056 (by rfl) (by decide +kernel)
set_option maxRecDepth 100000 in
theorem mw_1057 : (Cond.methodLink "BroadcastCarouselLaw" (68 : Nat) ({ cls := "BroadcastCarousel", name := "emptySlots", desc := "()I" } : MethodName)) ∈ bc_wd := bc_mem 1057 (by rfl) (by decide +kernel)
set_option maxRecDepth 100000 in
theorem mw_1058 : (Cond.instanceMethod ({ cls := "BroadcastCarousel", name := "emptySlots", desc := "()I" } : MethodName)) ∈ bc_wd := bc_mem 1058 (by rfl) (by decide +kernel)
set_option maxRecDepth 100000 in
theorem mw_1059 : (Cond.selects "BroadcastCarousel" ({ cls := "BroadcastCarousel", name := "emptySlots", desc := "()I" } : MethodName) ({ cls := "BroadcastCarousel", name := "emptySlots", desc := "()I" } : MethodName)) ∈ bc_wd := bc_mem 1059 (by rfl) (by decide +kernel)
set_option maxRecDepth 100000 in
theorem mw_1060 : (Cond.code ({ cls := "BroadcastCarousel", name := "emptySlots", desc := "()I" } : MethodName) prog_1_method_22_code (3 : Nat) (Option.some ClassFile.FieldType.int)) ∈ bc_wd := bc_mem 1060 (by rfl) (by decide +kernel)
set_option maxRecDepth 100000 in
theorem mw_1061 : (Cond.methodLink "BroadcastCarouselLaw" (235 : Nat) ({ cls := "BroadcastCarouselLaw", name := "gap", desc := "(LBroadcastCarousel;I[J)I" } : MethodName)) ∈ bc_wd := bc_mem 1061 (by rfl) (by decide +kernel)
set_option maxRecDepth 100000 in
theorem mw_1062 : (Cond.static ({ cls := "BroadcastCarouselLaw", name := "gap", desc := "(LBroadcastCarousel;I[J)I" } : MethodName)) ∈ bc_wd := bc_mem 1062 (by rfl) (by decide +kernel)
set_option maxRecDepth 100000 in
theorem mw_1063 : (Cond.codeWith ({ cls := "BroadcastCarouselLaw", name := "gap", desc := "(LBroadcastCarousel;I[J)I" } : MethodName) method_21_code (4 : Nat) (Option.some ClassFile.FieldType.int) [((0 : Nat), (9 : Nat), (12 : Nat), (13 : Nat)), ((0 : Nat), (9 : Nat), (15 : Nat), (19 : Nat))]) ∈ bc_wd := bc_mem 1063 (by rfl) (by decide +kernel)
set_option maxRecDepth 100000 in
theorem mw_1064 : (Cond.methodLink "BroadcastCarouselLaw" (71 : Nat) ({ cls := "BroadcastCarousel", name := "gap", desc := "(I)I" } : MethodName)) ∈ bc_wd := bc_mem 1064 (by rfl) (by decide +kernel)
set_option maxRecDepth 100000 in
theorem mw_1065 : (Cond.instanceMethod ({ cls := "BroadcastCarousel", name := "gap", desc := "(I)I" } : MethodName)) ∈ bc_wd := bc_mem 1065 (by rfl) (by decide +kernel)
set_option maxRecDepth 100000 in
theorem mw_1066 : (Cond.selects "BroadcastCarousel" ({ cls := "BroadcastCarousel", name := "gap", desc := "(I)I" } : MethodName) ({ cls := "BroadcastCarousel", name := "gap", desc := "(I)I" } : MethodName)) ∈ bc_wd := bc_mem 1066 (by rfl) (by decide +kernel)
set_option maxRecDepth 100000 in
theorem mw_1067 : (Cond.code ({ cls := "BroadcastCarousel", name := "gap", desc := "(I)I" } : MethodName) prog_1_method_23_code (2 : Nat) (Option.some ClassFile.FieldType.int)) ∈ bc_wd := bc_mem 1067 (by rfl) (by decide +kernel)
set_option maxRecDepth 100000 in
theorem mw_1069 : (Cond.methodLink "BroadcastCarouselLaw" (238 : Nat) ({ cls := "BroadcastCarouselLaw", name := "violations", desc := "(LBroadcastCarousel;[J)I" } : MethodName)) ∈ bc_wd := bc_mem 1069 (by rfl) (by decide +kernel)
set_option maxRecDepth 100000 in
theorem mw_1070 : (Cond.static ({ cls := "BroadcastCarouselLaw", name := "violations", desc := "(LBroadcastCarousel;[J)I" } : MethodName)) ∈ bc_wd := bc_mem 1070 (by rfl) (by decide +kernel)
set_option maxRecDepth 100000 in
theorem mw_1071 : (Cond.codeWith ({ cls := "BroadcastCarouselLaw", name := "violations", desc := "(LBroadcastCarousel;[J)I" } : MethodName) method_22_code (3 : Nat) (Option.some ClassFile.FieldType.int) [((0 : Nat), (8 : Nat), (11 : Nat), (13 : Nat))]) ∈ bc_wd := bc_mem 1071 (by rfl) (by decide +kernel)
set_option maxRecDepth 100000 in
theorem mw_1072 : (Cond.methodLink "BroadcastCarouselLaw" (74 : Nat) ({ cls := "BroadcastCarousel", name := "violations", desc := "()I" } : MethodName)) ∈ bc_wd := bc_mem 1072 (by rfl) (by decide +kernel)
set_option maxRecDepth 100000 in
theorem mw_1073 : (Cond.instanceMethod ({ cls := "BroadcastCarousel", name := "violations", desc := "()I" } : MethodName)) ∈ bc_wd := bc_mem 1073 (by rfl) (by decide +kernel)
set_option maxRecDepth 100000 in
theorem mw_1074 : (Cond.selects "BroadcastCarousel" ({ cls := "BroadcastCarousel", name := "violations", desc := "()I" } : MethodName) ({ cls := "BroadcastCarousel", name := "violations", desc := "()I" } : MethodName)) ∈ bc_wd := bc_mem 1074 (by rfl) (by decide +kernel)
set_option maxRecDepth 100000 in
theorem mw_1075 : (Cond.code ({ cls := "BroadcastCarousel", name := "violations", desc := "()I" } : MethodName) prog_1_method_24_code (1 : Nat) (Option.some ClassFile.FieldType.int)) ∈ bc_wd := bc_mem 1075 (by rfl) (by decide +kernel)
set_option maxRecDepth 100000 in
theorem mw_1076 : (Cond.methodLink "BroadcastCarouselLaw" (241 : Nat) ({ cls := "BroadcastCarouselLaw", name := "nextTime", desc := "(LBroadcastCarousel;II[J)I" } : MethodName)) ∈ bc_wd := bc_mem 1076 (by rfl) (by decide +kernel)
set_option maxRecDepth 100000 in
theorem mw_1077 : (Cond.static ({ cls := "BroadcastCarouselLaw", name := "nextTime", desc := "(LBroadcastCarousel;II[J)I" } : MethodName)) ∈ bc_wd := bc_mem 1077 (by rfl) (by decide +kernel)
set_option maxRecDepth 100000 in
theorem mw_1078 : (Cond.codeWith ({ cls := "BroadcastCarouselLaw", name := "nextTime", desc := "(LBroadcastCarousel;II[J)I" } : MethodName) method_23_code (5 : Nat) (Option.some ClassFile.FieldType.int) [((0 : Nat), (10 : Nat), (13 : Nat), (13 : Nat)), ((0 : Nat), (10 : Nat), (17 : Nat), (19 : Nat))]) ∈ bc_wd := bc_mem 1078 (by rfl) (by decide +kernel)
set_option maxRecDepth 100000 in
theorem mw_1079 : (Cond.methodLink "BroadcastCarouselLaw" (77 : Nat) ({ cls := "BroadcastCarousel", name := "nextTime", desc := "(II)I" } : MethodName)) ∈ bc_wd := bc_mem 1079 (by rfl) (by decide +kernel)
set_option maxRecDepth 100000 in
theorem mw_1080 : (Cond.instanceMethod ({ cls := "BroadcastCarousel", name := "nextTime", desc := "(II)I" } : MethodName)) ∈ bc_wd := bc_mem 1080 (by rfl) (by decide +kernel)
set_option maxRecDepth 100000 in
theorem mw_1081 : (Cond.selects "BroadcastCarousel" ({ cls := "BroadcastCarousel", name := "nextTime", desc := "(II)I" } : MethodName) ({ cls := "BroadcastCarousel", name := "nextTime", desc := "(II)I" } : MethodName)) ∈ bc_wd := bc_mem 1081 (by rfl) (by decide +kernel)
set_option maxRecDepth 100000 in
theorem mw_1082 : (Cond.code ({ cls := "BroadcastCarousel", name := "nextTime", desc := "(II)I" } : MethodName) prog_1_method_25_code (3 : Nat) (Option.some ClassFile.FieldType.int)) ∈ bc_wd := bc_mem 1082 (by rfl) (by decide +kernel)
set_option maxRecDepth 100000 in
theorem mw_1084 : (Cond.methodLink "BroadcastCarouselLaw" (244 : Nat) ({ cls := "BroadcastCarouselLaw", name := "share", desc := "(LBroadcastCarousel;I[D)I" } : MethodName)) ∈ bc_wd := bc_mem 1084 (by rfl) (by decide +kernel)
set_option maxRecDepth 100000 in
theorem mw_1085 : (Cond.static ({ cls := "BroadcastCarouselLaw", name := "share", desc := "(LBroadcastCarousel;I[D)I" } : MethodName)) ∈ bc_wd := bc_mem 1085 (by rfl) (by decide +kernel)
set_option maxRecDepth 100000 in
theorem mw_1086 : (Cond.codeWith ({ cls := "BroadcastCarouselLaw", name := "share", desc := "(LBroadcastCarousel;I[D)I" } : MethodName) method_24_code (4 : Nat) (Option.some ClassFile.FieldType.int) [((0 : Nat), (8 : Nat), (11 : Nat), (13 : Nat)), ((0 : Nat), (8 : Nat), (14 : Nat), (19 : Nat))]) ∈ bc_wd := bc_mem 1086 (by rfl) (by decide +kernel)
set_option maxRecDepth 100000 in
theorem mw_1087 : (Cond.methodLink "BroadcastCarouselLaw" (80 : Nat) ({ cls := "BroadcastCarousel", name := "share", desc := "(I)D" } : MethodName)) ∈ bc_wd := bc_mem 1087 (by rfl) (by decide +kernel)
set_option maxRecDepth 100000 in
theorem mw_1088 : (Cond.instanceMethod ({ cls := "BroadcastCarousel", name := "share", desc := "(I)D" } : MethodName)) ∈ bc_wd := bc_mem 1088 (by rfl) (by decide +kernel)
set_option maxRecDepth 100000 in
theorem mw_1089 : (Cond.selects "BroadcastCarousel" ({ cls := "BroadcastCarousel", name := "share", desc := "(I)D" } : MethodName) ({ cls := "BroadcastCarousel", name := "share", desc := "(I)D" } : MethodName)) ∈ bc_wd := bc_mem 1089 (by rfl) (by decide +kernel)
set_option maxRecDepth 100000 in
theorem mw_1090 : (Cond.code ({ cls := "BroadcastCarousel", name := "share", desc := "(I)D" } : MethodName) prog_1_method_26_code (2 : Nat) (Option.some ClassFile.FieldType.double)) ∈ bc_wd := bc_mem 1090 (by rfl) (by decide +kernel)
set_option maxRecDepth 100000 in
theorem mw_1095 : (Cond.methodLink "BroadcastCarouselLaw" (248 : Nat) ({ cls := "BroadcastCarouselLaw", name := "accessTime", desc := "(LBroadcastCarousel;II[J)I" } : MethodName)) ∈ bc_wd := bc_mem 1095 (by rfl) (by decide +kernel)
set_option maxRecDepth 100000 in
theorem mw_1096 : (Cond.static ({ cls := "BroadcastCarouselLaw", name := "accessTime", desc := "(LBroadcastCarousel;II[J)I" } : MethodName)) ∈ bc_wd := bc_mem 1096 (by rfl) (by decide +kernel)
set_option maxRecDepth 100000 in
theorem mw_1097 : (Cond.codeWith ({ cls := "BroadcastCarouselLaw", name := "accessTime", desc := "(LBroadcastCarousel;II[J)I" } : MethodName) method_25_code (5 : Nat) (Option.some ClassFile.FieldType.int) [((0 : Nat), (10 : Nat), (13 : Nat), (13 : Nat)), ((0 : Nat), (10 : Nat), (17 : Nat), (19 : Nat))]) ∈ bc_wd := bc_mem 1097 (by rfl) (by decide +kernel)
set_option maxRecDepth 100000 in
theorem mw_1098 : (Cond.methodLink "BroadcastCarouselLaw" (84 : Nat) ({ cls := "BroadcastCarousel", name := "accessTime", desc := "(II)I" } : MethodName)) ∈ bc_wd := bc_mem 1098 (by rfl) (by decide +kernel)
set_option maxRecDepth 100000 in
theorem mw_1099 : (Cond.instanceMethod ({ cls := "BroadcastCarousel", name := "accessTime", desc := "(II)I" } : MethodName)) ∈ bc_wd := bc_mem 1099 (by rfl) (by decide +kernel)
set_option maxRecDepth 100000 in
theorem mw_1100 : (Cond.selects "BroadcastCarousel" ({ cls := "BroadcastCarousel", name := "accessTime", desc := "(II)I" } : MethodName) ({ cls := "BroadcastCarousel", name := "accessTime", desc := "(II)I" } : MethodName)) ∈ bc_wd := bc_mem 1100 (by rfl) (by decide +kernel)
set_option maxRecDepth 100000 in
theorem mw_1101 : (Cond.code ({ cls := "BroadcastCarousel", name := "accessTime", desc := "(II)I" } : MethodName) prog_1_method_27_code (3 : Nat) (Option.some ClassFile.FieldType.int)) ∈ bc_wd := bc_mem 1101 (by rfl) (by decide +kernel)
set_option maxRecDepth 100000 in
theorem mw_1103 : (Cond.methodLink "BroadcastCarouselLaw" (251 : Nat) ({ cls := "BroadcastCarouselLaw", name := "tuningTime", desc := "(LBroadcastCarousel;II[J)I" } : MethodName)) ∈ bc_wd := bc_mem 1103 (by rfl) (by decide +kernel)
set_option maxRecDepth 100000 in
theorem mw_1104 : (Cond.static ({ cls := "BroadcastCarouselLaw", name := "tuningTime", desc := "(LBroadcastCarousel;II[J)I" } : MethodName)) ∈ bc_wd := bc_mem 1104 (by rfl) (by decide +kernel)
set_option maxRecDepth 100000 in
theorem mw_1105 : (Cond.codeWith ({ cls := "BroadcastCarouselLaw", name := "tuningTime", desc := "(LBroadcastCarousel;II[J)I" } : MethodName) method_26_code (5 : Nat) (Option.some ClassFile.FieldType.int) [((0 : Nat), (10 : Nat), (13 : Nat), (13 : Nat)), ((0 : Nat), (10 : Nat), (17 : Nat), (19 : Nat))]) ∈ bc_wd := bc_mem 1105 (by rfl) (by decide +kernel)
set_option maxRecDepth 100000 in
theorem mw_1106 : (Cond.methodLink "BroadcastCarouselLaw" (87 : Nat) ({ cls := "BroadcastCarousel", name := "tuningTime", desc := "(II)I" } : MethodName)) ∈ bc_wd := bc_mem 1106 (by rfl) (by decide +kernel)
set_option maxRecDepth 100000 in
theorem mw_1107 : (Cond.instanceMethod ({ cls := "BroadcastCarousel", name := "tuningTime", desc := "(II)I" } : MethodName)) ∈ bc_wd := bc_mem 1107 (by rfl) (by decide +kernel)
set_option maxRecDepth 100000 in
theorem mw_1108 : (Cond.selects "BroadcastCarousel" ({ cls := "BroadcastCarousel", name := "tuningTime", desc := "(II)I" } : MethodName) ({ cls := "BroadcastCarousel", name := "tuningTime", desc := "(II)I" } : MethodName)) ∈ bc_wd := bc_mem 1108 (by rfl) (by decide +kernel)
set_option maxRecDepth 100000 in
theorem mw_1109 : (Cond.code ({ cls := "BroadcastCarousel", name := "tuningTime", desc := "(II)I" } : MethodName) prog_1_method_28_code (3 : Nat) (Option.some ClassFile.FieldType.int)) ∈ bc_wd := bc_mem 1109 (by rfl) (by decide +kernel)
set_option maxRecDepth 100000 in
theorem mw_1111 : (Cond.methodLink "BroadcastCarouselLaw" (254 : Nat) ({ cls := "BroadcastCarouselLaw", name := "worstAccess", desc := "(LBroadcastCarousel;I[J)I" } : MethodName)) ∈ bc_wd := bc_mem 1111 (by rfl) (by decide +kernel)
set_option maxRecDepth 100000 in
theorem mw_1112 : (Cond.static ({ cls := "BroadcastCarouselLaw", name := "worstAccess", desc := "(LBroadcastCarousel;I[J)I" } : MethodName)) ∈ bc_wd := bc_mem 1112 (by rfl) (by decide +kernel)
set_option maxRecDepth 100000 in
theorem mw_1113 : (Cond.codeWith ({ cls := "BroadcastCarouselLaw", name := "worstAccess", desc := "(LBroadcastCarousel;I[J)I" } : MethodName) method_27_code (4 : Nat) (Option.some ClassFile.FieldType.int) [((0 : Nat), (9 : Nat), (12 : Nat), (13 : Nat)), ((0 : Nat), (9 : Nat), (15 : Nat), (19 : Nat))]) ∈ bc_wd := bc_mem 1113 (by rfl) (by decide +kernel)
set_option maxRecDepth 100000 in
theorem mw_1114 : (Cond.methodLink "BroadcastCarouselLaw" (90 : Nat) ({ cls := "BroadcastCarousel", name := "worstAccess", desc := "(I)I" } : MethodName)) ∈ bc_wd := bc_mem 1114 (by rfl) (by decide +kernel)
set_option maxRecDepth 100000 in
theorem mw_1115 : (Cond.instanceMethod ({ cls := "BroadcastCarousel", name := "worstAccess", desc := "(I)I" } : MethodName)) ∈ bc_wd := bc_mem 1115 (by rfl) (by decide +kernel)
set_option maxRecDepth 100000 in
theorem mw_1116 : (Cond.selects "BroadcastCarousel" ({ cls := "BroadcastCarousel", name := "worstAccess", desc := "(I)I" } : MethodName) ({ cls := "BroadcastCarousel", name := "worstAccess", desc := "(I)I" } : MethodName)) ∈ bc_wd := bc_mem 1116 (by rfl) (by decide +kernel)
set_option maxRecDepth 100000 in
theorem mw_1117 : (Cond.code ({ cls := "BroadcastCarousel", name := "worstAccess", desc := "(I)I" } : MethodName) prog_1_method_29_code (4 : Nat) (Option.some ClassFile.FieldType.int)) ∈ bc_wd := bc_mem 1117 (by rfl) (by decide +kernel)
set_option maxRecDepth 100000 in
theorem mw_1119 : (Cond.methodLink "BroadcastCarouselLaw" (257 : Nat) ({ cls := "BroadcastCarouselLaw", name := "weight", desc := "(LBroadcastCarousel;I[J)I" } : MethodName)) ∈ bc_wd := bc_mem 1119 (by rfl) (by decide +kernel)
set_option maxRecDepth 100000 in
theorem mw_1120 : (Cond.static ({ cls := "BroadcastCarouselLaw", name := "weight", desc := "(LBroadcastCarousel;I[J)I" } : MethodName)) ∈ bc_wd := bc_mem 1120 (by rfl) (by decide +kernel)
set_option maxRecDepth 100000 in
theorem mw_1121 : (Cond.codeWith ({ cls := "BroadcastCarouselLaw", name := "weight", desc := "(LBroadcastCarousel;I[J)I" } : MethodName) method_28_code (4 : Nat) (Option.some ClassFile.FieldType.int) [((0 : Nat), (8 : Nat), (11 : Nat), (13 : Nat)), ((0 : Nat), (8 : Nat), (14 : Nat), (19 : Nat))]) ∈ bc_wd := bc_mem 1121 (by rfl) (by decide +kernel)
set_option maxRecDepth 100000 in
theorem mw_1122 : (Cond.methodLink "BroadcastCarouselLaw" (93 : Nat) ({ cls := "BroadcastCarousel", name := "weight", desc := "(I)J" } : MethodName)) ∈ bc_wd := bc_mem 1122 (by rfl) (by decide +kernel)
set_option maxRecDepth 100000 in
theorem mw_1123 : (Cond.instanceMethod ({ cls := "BroadcastCarousel", name := "weight", desc := "(I)J" } : MethodName)) ∈ bc_wd := bc_mem 1123 (by rfl) (by decide +kernel)
set_option maxRecDepth 100000 in
theorem mw_1124 : (Cond.selects "BroadcastCarousel" ({ cls := "BroadcastCarousel", name := "weight", desc := "(I)J" } : MethodName) ({ cls := "BroadcastCarousel", name := "weight", desc := "(I)J" } : MethodName)) ∈ bc_wd := bc_mem 1124 (by rfl) (by decide +kernel)
set_option maxRecDepth 100000 in
theorem mw_1125 : (Cond.code ({ cls := "BroadcastCarousel", name := "weight", desc := "(I)J" } : MethodName) prog_1_method_30_code (2 : Nat) (Option.some ClassFile.FieldType.long)) ∈ bc_wd := bc_mem 1125 (by rfl) (by decide +kernel)
set_option maxRecDepth 100000 in
theorem mw_1127 : (Cond.methodLink "BroadcastCarouselLaw" (260 : Nat) ({ cls := "BroadcastCarouselLaw", name := "meanAccess", desc := "(LBroadcastCarousel;I[D)I" } : MethodName)) ∈ bc_wd := bc_mem 1127 (by rfl) (by decide +kernel)
set_option maxRecDepth 100000 in
theorem mw_1128 : (Cond.static ({ cls := "BroadcastCarouselLaw", name := "meanAccess", desc := "(LBroadcastCarousel;I[D)I" } : MethodName)) ∈ bc_wd := bc_mem 1128 (by rfl) (by decide +kernel)
set_option maxRecDepth 100000 in
theorem mw_1129 : (Cond.codeWith ({ cls := "BroadcastCarouselLaw", name := "meanAccess", desc := "(LBroadcastCarousel;I[D)I" } : MethodName) method_29_code (4 : Nat) (Option.some ClassFile.FieldType.int) [((0 : Nat), (8 : Nat), (11 : Nat), (13 : Nat)), ((0 : Nat), (8 : Nat), (14 : Nat), (19 : Nat))]) ∈ bc_wd := bc_mem 1129 (by rfl) (by decide +kernel)
set_option maxRecDepth 100000 in
theorem mw_1130 : (Cond.methodLink "BroadcastCarouselLaw" (97 : Nat) ({ cls := "BroadcastCarousel", name := "meanAccess", desc := "(I)D" } : MethodName)) ∈ bc_wd := bc_mem 1130 (by rfl) (by decide +kernel)
set_option maxRecDepth 100000 in
theorem mw_1131 : (Cond.instanceMethod ({ cls := "BroadcastCarousel", name := "meanAccess", desc := "(I)D" } : MethodName)) ∈ bc_wd := bc_mem 1131 (by rfl) (by decide +kernel)
set_option maxRecDepth 100000 in
theorem mw_1132 : (Cond.selects "BroadcastCarousel" ({ cls := "BroadcastCarousel", name := "meanAccess", desc := "(I)D" } : MethodName) ({ cls := "BroadcastCarousel", name := "meanAccess", desc := "(I)D" } : MethodName)) ∈ bc_wd := bc_mem 1132 (by rfl) (by decide +kernel)
set_option maxRecDepth 100000 in
theorem mw_1133 : (Cond.code ({ cls := "BroadcastCarousel", name := "meanAccess", desc := "(I)D" } : MethodName) prog_1_method_31_code (2 : Nat) (Option.some ClassFile.FieldType.double)) ∈ bc_wd := bc_mem 1133 (by rfl) (by decide +kernel)
set_option maxRecDepth 100000 in
theorem mw_1135 : (Cond.methodLink "BroadcastCarouselLaw" (263 : Nat) ({ cls := "BroadcastCarouselLaw", name := "bestSegments", desc := "(LBroadcastCarousel;I[J)I" } : MethodName)) ∈ bc_wd := bc_mem 1135 (by rfl) (by decide +kernel)
set_option maxRecDepth 100000 in
theorem mw_1136 : (Cond.static ({ cls := "BroadcastCarouselLaw", name := "bestSegments", desc := "(LBroadcastCarousel;I[J)I" } : MethodName)) ∈ bc_wd := bc_mem 1136 (by rfl) (by decide +kernel)
set_option maxRecDepth 100000 in
theorem mw_1137 : (Cond.codeWith ({ cls := "BroadcastCarouselLaw", name := "bestSegments", desc := "(LBroadcastCarousel;I[J)I" } : MethodName) method_30_code (4 : Nat) (Option.some ClassFile.FieldType.int) [((0 : Nat), (9 : Nat), (12 : Nat), (13 : Nat)), ((0 : Nat), (9 : Nat), (15 : Nat), (19 : Nat))]) ∈ bc_wd := bc_mem 1137 (by rfl) (by decide +kernel)
set_option maxRecDepth 100000 in
theorem mw_1138 : (Cond.methodLink "BroadcastCarouselLaw" (100 : Nat) ({ cls := "BroadcastCarousel", name := "bestSegments", desc := "(I)I" } : MethodName)) ∈ bc_wd := bc_mem 1138 (by rfl) (by decide +kernel)
set_option maxRecDepth 100000 in
theorem mw_1139 : (Cond.instanceMethod ({ cls := "BroadcastCarousel", name := "bestSegments", desc := "(I)I" } : MethodName)) ∈ bc_wd := bc_mem 1139 (by rfl) (by decide +kernel)
set_option maxRecDepth 100000 in
theorem mw_1140 : (Cond.selects "BroadcastCarousel" ({ cls := "BroadcastCarousel", name := "bestSegments", desc := "(I)I" } : MethodName) ({ cls := "BroadcastCarousel", name := "bestSegments", desc := "(I)I" } : MethodName)) ∈ bc_wd := bc_mem 1140 (by rfl) (by decide +kernel)
set_option maxRecDepth 100000 in
theorem mw_1141 : (Cond.code ({ cls := "BroadcastCarousel", name := "bestSegments", desc := "(I)I" } : MethodName) prog_1_method_32_code (9 : Nat) (Option.some ClassFile.FieldType.int)) ∈ bc_wd := bc_mem 1141 (by rfl) (by decide +kernel)
set_option maxRecDepth 100000 in
theorem mw_1142 : (Cond.methodLink "BroadcastCarouselLaw" (266 : Nat) ({ cls := "BroadcastCarouselLaw", name := "worstTime", desc := "(LBroadcastCarousel;I[J)I" } : MethodName)) ∈ bc_wd := bc_mem 1142 (by rfl) (by decide +kernel)
set_option maxRecDepth 100000 in
theorem mw_1143 : (Cond.static ({ cls := "BroadcastCarouselLaw", name := "worstTime", desc := "(LBroadcastCarousel;I[J)I" } : MethodName)) ∈ bc_wd := bc_mem 1143 (by rfl) (by decide +kernel)
set_option maxRecDepth 100000 in
theorem mw_1144 : (Cond.codeWith ({ cls := "BroadcastCarouselLaw", name := "worstTime", desc := "(LBroadcastCarousel;I[J)I" } : MethodName) method_31_code (4 : Nat) (Option.some ClassFile.FieldType.int) [((0 : Nat), (9 : Nat), (12 : Nat), (13 : Nat)), ((0 : Nat), (9 : Nat), (15 : Nat), (19 : Nat))]) ∈ bc_wd := bc_mem 1144 (by rfl) (by decide +kernel)
set_option maxRecDepth 100000 in
theorem mw_1145 : (Cond.methodLink "BroadcastCarouselLaw" (103 : Nat) ({ cls := "BroadcastCarousel", name := "worstTime", desc := "(I)I" } : MethodName)) ∈ bc_wd := bc_mem 1145 (by rfl) (by decide +kernel)
set_option maxRecDepth 100000 in
theorem mw_1146 : (Cond.instanceMethod ({ cls := "BroadcastCarousel", name := "worstTime", desc := "(I)I" } : MethodName)) ∈ bc_wd := bc_mem 1146 (by rfl) (by decide +kernel)
set_option maxRecDepth 100000 in
theorem mw_1147 : (Cond.selects "BroadcastCarousel" ({ cls := "BroadcastCarousel", name := "worstTime", desc := "(I)I" } : MethodName) ({ cls := "BroadcastCarousel", name := "worstTime", desc := "(I)I" } : MethodName)) ∈ bc_wd := bc_mem 1147 (by rfl) (by decide +kernel)
set_option maxRecDepth 100000 in
theorem mw_1148 : (Cond.code ({ cls := "BroadcastCarousel", name := "worstTime", desc := "(I)I" } : MethodName) prog_1_method_33_code (6 : Nat) (Option.some ClassFile.FieldType.int)) ∈ bc_wd := bc_mem 1148 (by rfl) (by decide +kernel)
set_option maxRecDepth 100000 in
theorem mw_1158 : (Cond.methodLink "BroadcastCarouselLaw" (269 : Nat) ({ cls := "BroadcastCarouselLaw", name := "leastWorth", desc := "(LBroadcastCarousel;[J)I" } : MethodName)) ∈ bc_wd := bc_mem 1158 (by rfl) (by decide +kernel)
set_option maxRecDepth 100000 in
theorem mw_1159 : (Cond.static ({ cls := "BroadcastCarouselLaw", name := "leastWorth", desc := "(LBroadcastCarousel;[J)I" } : MethodName)) ∈ bc_wd := bc_mem 1159 (by rfl) (by decide +kernel)
set_option maxRecDepth 100000 in
theorem mw_1160 : (Cond.codeWith ({ cls := "BroadcastCarouselLaw", name := "leastWorth", desc := "(LBroadcastCarousel;[J)I" } : MethodName) method_32_code (3 : Nat) (Option.some ClassFile.FieldType.int) [((0 : Nat), (8 : Nat), (11 : Nat), (13 : Nat))]) ∈ bc_wd := bc_mem 1160 (by rfl) (by decide +kernel)
set_option maxRecDepth 100000 in
theorem mw_1161 : (Cond.methodLink "BroadcastCarouselLaw" (106 : Nat) ({ cls := "BroadcastCarousel", name := "leastWorth", desc := "()I" } : MethodName)) ∈ bc_wd := bc_mem 1161 (by rfl) (by decide +kernel)
set_option maxRecDepth 100000 in
theorem mw_1162 : (Cond.instanceMethod ({ cls := "BroadcastCarousel", name := "leastWorth", desc := "()I" } : MethodName)) ∈ bc_wd := bc_mem 1162 (by rfl) (by decide +kernel)
set_option maxRecDepth 100000 in
theorem mw_1163 : (Cond.selects "BroadcastCarousel" ({ cls := "BroadcastCarousel", name := "leastWorth", desc := "()I" } : MethodName) ({ cls := "BroadcastCarousel", name := "leastWorth", desc := "()I" } : MethodName)) ∈ bc_wd := bc_mem 1163 (by rfl) (by decide +kernel)
set_option maxRecDepth 100000 in
theorem mw_1164 : (Cond.code ({ cls := "BroadcastCarousel", name := "leastWorth", desc := "()I" } : MethodName) prog_1_method_35_code (4 : Nat) (Option.some ClassFile.FieldType.int)) ∈ bc_wd := bc_mem 1164 (by rfl) (by decide +kernel)
set_option maxRecDepth 100000 in
theorem mw_1165 : (Cond.methodLink "BroadcastCarouselLaw" (272 : Nat) ({ cls := "BroadcastCarouselLaw", name := "itemRank", desc := "(LBroadcastCarousel;I[J)I" } : MethodName)) ∈ bc_wd := bc_mem 1165 (by rfl) (by decide +kernel)
set_option maxRecDepth 100000 in
theorem mw_1166 : (Cond.static ({ cls := "BroadcastCarouselLaw", name := "itemRank", desc := "(LBroadcastCarousel;I[J)I" } : MethodName)) ∈ bc_wd := bc_mem 1166 (by rfl) (by decide +kernel)
set_option maxRecDepth 100000 in
theorem mw_1167 : (Cond.codeWith ({ cls := "BroadcastCarouselLaw", name := "itemRank", desc := "(LBroadcastCarousel;I[J)I" } : MethodName) method_33_code (4 : Nat) (Option.some ClassFile.FieldType.int) [((0 : Nat), (9 : Nat), (12 : Nat), (13 : Nat)), ((0 : Nat), (9 : Nat), (15 : Nat), (19 : Nat)), ((0 : Nat), (9 : Nat), (18 : Nat), (112 : Nat))]) ∈ bc_wd := bc_mem 1167 (by rfl) (by decide +kernel)
set_option maxRecDepth 100000 in
theorem mw_1169 : (Cond.methodLink "BroadcastCarouselLaw" (109 : Nat) ({ cls := "BroadcastCarousel", name := "itemRank", desc := "(I)I" } : MethodName)) ∈ bc_wd := bc_mem 1169 (by rfl) (by decide +kernel)
set_option maxRecDepth 100000 in
theorem mw_1170 : (Cond.instanceMethod ({ cls := "BroadcastCarousel", name := "itemRank", desc := "(I)I" } : MethodName)) ∈ bc_wd := bc_mem 1170 (by rfl) (by decide +kernel)
set_option maxRecDepth 100000 in
theorem mw_1171 : (Cond.selects "BroadcastCarousel" ({ cls := "BroadcastCarousel", name := "itemRank", desc := "(I)I" } : MethodName) ({ cls := "BroadcastCarousel", name := "itemRank", desc := "(I)I" } : MethodName)) ∈ bc_wd := bc_mem 1171 (by rfl) (by decide +kernel)
set_option maxRecDepth 100000 in
theorem mw_1172 : (Cond.code ({ cls := "BroadcastCarousel", name := "itemRank", desc := "(I)I" } : MethodName) prog_1_method_36_code (2 : Nat) (Option.some ClassFile.FieldType.int)) ∈ bc_wd := bc_mem 1172 (by rfl) (by decide +kernel)
set_option maxRecDepth 100000 in
theorem mw_1197 : (Cond.methodLink "BroadcastCarouselLaw" (275 : Nat) ({ cls := "BroadcastCarouselLaw", name := "diskRank", desc := "(LBroadcastCarousel;I[J)I" } : MethodName)) ∈ bc_wd := bc_mem 1197 (by rfl) (by decide +kernel)
set_option maxRecDepth 100000 in
theorem mw_1198 : (Cond.static ({ cls := "BroadcastCarouselLaw", name := "diskRank", desc := "(LBroadcastCarousel;I[J)I" } : MethodName)) ∈ bc_wd := bc_mem 1198 (by rfl) (by decide +kernel)
set_option maxRecDepth 100000 in
theorem mw_1199 : (Cond.codeWith ({ cls := "BroadcastCarouselLaw", name := "diskRank", desc := "(LBroadcastCarousel;I[J)I" } : MethodName) method_34_code (4 : Nat) (Option.some ClassFile.FieldType.int) [((0 : Nat), (9 : Nat), (12 : Nat), (13 : Nat)), ((0 : Nat), (9 : Nat), (15 : Nat), (19 : Nat)), ((0 : Nat), (9 : Nat), (18 : Nat), (112 : Nat))]) ∈ bc_wd := bc_mem 1199 (by rfl) (by decide +kernel)
set_option maxRecDepth 100000 in
theorem mw_1200 : (Cond.methodLink "BroadcastCarouselLaw" (114 : Nat) ({ cls := "BroadcastCarousel", name := "diskRank", desc := "(I)I" } : MethodName)) ∈ bc_wd := bc_mem 1200 (by rfl) (by decide +kernel)
set_option maxRecDepth 100000 in
theorem mw_1201 : (Cond.instanceMethod ({ cls := "BroadcastCarousel", name := "diskRank", desc := "(I)I" } : MethodName)) ∈ bc_wd := bc_mem 1201 (by rfl) (by decide +kernel)
set_option maxRecDepth 100000 in
theorem mw_1202 : (Cond.selects "BroadcastCarousel" ({ cls := "BroadcastCarousel", name := "diskRank", desc := "(I)I" } : MethodName) ({ cls := "BroadcastCarousel", name := "diskRank", desc := "(I)I" } : MethodName)) ∈ bc_wd := bc_mem 1202 (by rfl) (by decide +kernel)
set_option maxRecDepth 100000 in
theorem mw_1203 : (Cond.code ({ cls := "BroadcastCarousel", name := "diskRank", desc := "(I)I" } : MethodName) prog_1_method_37_code (2 : Nat) (Option.some ClassFile.FieldType.int)) ∈ bc_wd := bc_mem 1203 (by rfl) (by decide +kernel)
set_option maxRecDepth 100000 in
theorem mw_1204 : (Cond.methodLink "BroadcastCarouselLaw" (278 : Nat) ({ cls := "BroadcastCarouselLaw", name := "tierSize", desc := "(LBroadcastCarousel;II[J)I" } : MethodName)) ∈ bc_wd := bc_mem 1204 (by rfl) (by decide +kernel)
set_option maxRecDepth 100000 in
theorem mw_1205 : (Cond.static ({ cls := "BroadcastCarouselLaw", name := "tierSize", desc := "(LBroadcastCarousel;II[J)I" } : MethodName)) ∈ bc_wd := bc_mem 1205 (by rfl) (by decide +kernel)
set_option maxRecDepth 100000 in
theorem mw_1206 : (Cond.codeWith ({ cls := "BroadcastCarouselLaw", name := "tierSize", desc := "(LBroadcastCarousel;II[J)I" } : MethodName) method_35_code (5 : Nat) (Option.some ClassFile.FieldType.int) [((0 : Nat), (10 : Nat), (13 : Nat), (13 : Nat)), ((0 : Nat), (10 : Nat), (17 : Nat), (19 : Nat))]) ∈ bc_wd := bc_mem 1206 (by rfl) (by decide +kernel)
set_option maxRecDepth 100000 in
theorem mw_1207 : (Cond.methodLink "BroadcastCarouselLaw" (117 : Nat) ({ cls := "BroadcastCarousel", name := "tierSize", desc := "(II)I" } : MethodName)) ∈ bc_wd := bc_mem 1207 (by rfl) (by decide +kernel)
set_option maxRecDepth 100000 in
theorem mw_1208 : (Cond.instanceMethod ({ cls := "BroadcastCarousel", name := "tierSize", desc := "(II)I" } : MethodName)) ∈ bc_wd := bc_mem 1208 (by rfl) (by decide +kernel)
set_option maxRecDepth 100000 in
theorem mw_1209 : (Cond.selects "BroadcastCarousel" ({ cls := "BroadcastCarousel", name := "tierSize", desc := "(II)I" } : MethodName) ({ cls := "BroadcastCarousel", name := "tierSize", desc := "(II)I" } : MethodName)) ∈ bc_wd := bc_mem 1209 (by rfl) (by decide +kernel)
set_option maxRecDepth 100000 in
theorem mw_1210 : (Cond.code ({ cls := "BroadcastCarousel", name := "tierSize", desc := "(II)I" } : MethodName) prog_1_method_38_code (3 : Nat) (Option.some ClassFile.FieldType.int)) ∈ bc_wd := bc_mem 1210 (by rfl) (by decide +kernel)
set_option maxRecDepth 100000 in
theorem mw_1211 : (Cond.methodLink "BroadcastCarouselLaw" (281 : Nat) ({ cls := "BroadcastCarouselLaw", name := "tierWeight", desc := "(LBroadcastCarousel;I[J)I" } : MethodName)) ∈ bc_wd := bc_mem 1211 (by rfl) (by decide +kernel)
set_option maxRecDepth 100000 in
theorem mw_1212 : (Cond.static ({ cls := "BroadcastCarouselLaw", name := "tierWeight", desc := "(LBroadcastCarousel;I[J)I" } : MethodName)) ∈ bc_wd := bc_mem 1212 (by rfl) (by decide +kernel)
set_option maxRecDepth 100000 in
theorem mw_1213 : (Cond.codeWith ({ cls := "BroadcastCarouselLaw", name := "tierWeight", desc := "(LBroadcastCarousel;I[J)I" } : MethodName) method_36_code (4 : Nat) (Option.some ClassFile.FieldType.int) [((0 : Nat), (8 : Nat), (11 : Nat), (13 : Nat)), ((0 : Nat), (8 : Nat), (14 : Nat), (19 : Nat))]) ∈ bc_wd := bc_mem 1213 (by rfl) (by decide +kernel)
set_option maxRecDepth 100000 in
theorem mw_1214 : (Cond.methodLink "BroadcastCarouselLaw" (120 : Nat) ({ cls := "BroadcastCarousel", name := "tierWeight", desc := "(I)J" } : MethodName)) ∈ bc_wd := bc_mem 1214 (by rfl) (by decide +kernel)
set_option maxRecDepth 100000 in
theorem mw_1215 : (Cond.instanceMethod ({ cls := "BroadcastCarousel", name := "tierWeight", desc := "(I)J" } : MethodName)) ∈ bc_wd := bc_mem 1215 (by rfl) (by decide +kernel)
set_option maxRecDepth 100000 in
theorem mw_1216 : (Cond.selects "BroadcastCarousel" ({ cls := "BroadcastCarousel", name := "tierWeight", desc := "(I)J" } : MethodName) ({ cls := "BroadcastCarousel", name := "tierWeight", desc := "(I)J" } : MethodName)) ∈ bc_wd := bc_mem 1216 (by rfl) (by decide +kernel)
set_option maxRecDepth 100000 in
theorem mw_1217 : (Cond.code ({ cls := "BroadcastCarousel", name := "tierWeight", desc := "(I)J" } : MethodName) prog_1_method_39_code (2 : Nat) (Option.some ClassFile.FieldType.long)) ∈ bc_wd := bc_mem 1217 (by rfl) (by decide +kernel)
set_option maxRecDepth 100000 in
theorem mw_1219 : (Cond.methodLink "BroadcastCarouselLaw" (284 : Nat) ({ cls := "BroadcastCarouselLaw", name := "afterRepair", desc := "(LBroadcastCarousel;[J)I" } : MethodName)) ∈ bc_wd := bc_mem 1219 (by rfl) (by decide +kernel)
set_option maxRecDepth 100000 in
theorem mw_1220 : (Cond.static ({ cls := "BroadcastCarouselLaw", name := "afterRepair", desc := "(LBroadcastCarousel;[J)I" } : MethodName)) ∈ bc_wd := bc_mem 1220 (by rfl) (by decide +kernel)
set_option maxRecDepth 100000 in
theorem mw_1221 : (Cond.codeWith ({ cls := "BroadcastCarouselLaw", name := "afterRepair", desc := "(LBroadcastCarousel;[J)I" } : MethodName) method_37_code (3 : Nat) (Option.some ClassFile.FieldType.int) [((0 : Nat), (8 : Nat), (11 : Nat), (13 : Nat))]) ∈ bc_wd := bc_mem 1221 (by rfl) (by decide +kernel)
set_option maxRecDepth 100000 in
theorem mw_1222 : (Cond.methodLink "BroadcastCarouselLaw" (123 : Nat) ({ cls := "BroadcastCarousel", name := "afterRepair", desc := "()I" } : MethodName)) ∈ bc_wd := bc_mem 1222 (by rfl) (by decide +kernel)
set_option maxRecDepth 100000 in
theorem mw_1223 : (Cond.instanceMethod ({ cls := "BroadcastCarousel", name := "afterRepair", desc := "()I" } : MethodName)) ∈ bc_wd := bc_mem 1223 (by rfl) (by decide +kernel)
set_option maxRecDepth 100000 in
theorem mw_1224 : (Cond.selects "BroadcastCarousel" ({ cls := "BroadcastCarousel", name := "afterRepair", desc := "()I" } : MethodName) ({ cls := "BroadcastCarousel", name := "afterRepair", desc := "()I" } : MethodName)) ∈ bc_wd := bc_mem 1224 (by rfl) (by decide +kernel)
set_option maxRecDepth 100000 in
theorem mw_1225 : (Cond.code ({ cls := "BroadcastCarousel", name := "afterRepair", desc := "()I" } : MethodName) prog_1_method_41_code (1 : Nat) (Option.some ClassFile.FieldType.int)) ∈ bc_wd := bc_mem 1225 (by rfl) (by decide +kernel)
set_option maxRecDepth 100000 in
theorem mw_1226 : (Cond.methodLink "BroadcastCarouselLaw" (287 : Nat) ({ cls := "BroadcastCarouselLaw", name := "bestDisk", desc := "(LBroadcastCarousel;I[J)I" } : MethodName)) ∈ bc_wd := bc_mem 1226 (by rfl) (by decide +kernel)
set_option maxRecDepth 100000 in
theorem mw_1227 : (Cond.static ({ cls := "BroadcastCarouselLaw", name := "bestDisk", desc := "(LBroadcastCarousel;I[J)I" } : MethodName)) ∈ bc_wd := bc_mem 1227 (by rfl) (by decide +kernel)
set_option maxRecDepth 100000 in
theorem mw_1228 : (Cond.codeWith ({ cls := "BroadcastCarouselLaw", name := "bestDisk", desc := "(LBroadcastCarousel;I[J)I" } : MethodName) method_38_code (4 : Nat) (Option.some ClassFile.FieldType.int) [((0 : Nat), (9 : Nat), (12 : Nat), (13 : Nat)), ((0 : Nat), (9 : Nat), (15 : Nat), (19 : Nat))]) ∈ bc_wd := bc_mem 1228 (by rfl) (by decide +kernel)
set_option maxRecDepth 100000 in
theorem mw_1229 : (Cond.methodLink "BroadcastCarouselLaw" (126 : Nat) ({ cls := "BroadcastCarousel", name := "bestDisk", desc := "(I)I" } : MethodName)) ∈ bc_wd := bc_mem 1229 (by rfl) (by decide +kernel)
set_option maxRecDepth 100000 in
theorem mw_1230 : (Cond.instanceMethod ({ cls := "BroadcastCarousel", name := "bestDisk", desc := "(I)I" } : MethodName)) ∈ bc_wd := bc_mem 1230 (by rfl) (by decide +kernel)
set_option maxRecDepth 100000 in
theorem mw_1231 : (Cond.selects "BroadcastCarousel" ({ cls := "BroadcastCarousel", name := "bestDisk", desc := "(I)I" } : MethodName) ({ cls := "BroadcastCarousel", name := "bestDisk", desc := "(I)I" } : MethodName)) ∈ bc_wd := bc_mem 1231 (by rfl) (by decide +kernel)
set_option maxRecDepth 100000 in
theorem mw_1232 : (Cond.code ({ cls := "BroadcastCarousel", name := "bestDisk", desc := "(I)I" } : MethodName) prog_1_method_42_code (6 : Nat) (Option.some ClassFile.FieldType.int)) ∈ bc_wd := bc_mem 1232 (by rfl) (by decide +kernel)
set_option maxRecDepth 100000 in
theorem mw_1233 : (Cond.methodLink "BroadcastCarouselLaw" (290 : Nat) ({ cls := "BroadcastCarouselLaw", name := "clientCount", desc := "(LBroadcastCarousel;[J)I" } : MethodName)) ∈ bc_wd := bc_mem 1233 (by rfl) (by decide +kernel)
set_option maxRecDepth 100000 in
theorem mw_1234 : (Cond.static ({ cls := "BroadcastCarouselLaw", name := "clientCount", desc := "(LBroadcastCarousel;[J)I" } : MethodName)) ∈ bc_wd := bc_mem 1234 (by rfl) (by decide +kernel)
set_option maxRecDepth 100000 in
theorem mw_1235 : (Cond.codeWith ({ cls := "BroadcastCarouselLaw", name := "clientCount", desc := "(LBroadcastCarousel;[J)I" } : MethodName) method_39_code (3 : Nat) (Option.some ClassFile.FieldType.int) [((0 : Nat), (8 : Nat), (11 : Nat), (13 : Nat))]) ∈ bc_wd := bc_mem 1235 (by rfl) (by decide +kernel)
set_option maxRecDepth 100000 in
theorem mw_1236 : (Cond.methodLink "BroadcastCarouselLaw" (129 : Nat) ({ cls := "BroadcastCarousel", name := "clientCount", desc := "()I" } : MethodName)) ∈ bc_wd := bc_mem 1236 (by rfl) (by decide +kernel)
set_option maxRecDepth 100000 in
theorem mw_1237 : (Cond.instanceMethod ({ cls := "BroadcastCarousel", name := "clientCount", desc := "()I" } : MethodName)) ∈ bc_wd := bc_mem 1237 (by rfl) (by decide +kernel)
set_option maxRecDepth 100000 in
theorem mw_1238 : (Cond.selects "BroadcastCarousel" ({ cls := "BroadcastCarousel", name := "clientCount", desc := "()I" } : MethodName) ({ cls := "BroadcastCarousel", name := "clientCount", desc := "()I" } : MethodName)) ∈ bc_wd := bc_mem 1238 (by rfl) (by decide +kernel)
set_option maxRecDepth 100000 in
theorem mw_1239 : (Cond.code ({ cls := "BroadcastCarousel", name := "clientCount", desc := "()I" } : MethodName) prog_1_method_45_code (1 : Nat) (Option.some ClassFile.FieldType.int)) ∈ bc_wd := bc_mem 1239 (by rfl) (by decide +kernel)
set_option maxRecDepth 100000 in
theorem mw_1240 : (Cond.methodLink "BroadcastCarouselLaw" (293 : Nat) ({ cls := "BroadcastCarouselLaw", name := "clientValue", desc := "(LBroadcastCarousel;II[J)I" } : MethodName)) ∈ bc_wd := bc_mem 1240 (by rfl) (by decide +kernel)
set_option maxRecDepth 100000 in
theorem mw_1241 : (Cond.static ({ cls := "BroadcastCarouselLaw", name := "clientValue", desc := "(LBroadcastCarousel;II[J)I" } : MethodName)) ∈ bc_wd := bc_mem 1241 (by rfl) (by decide +kernel)
set_option maxRecDepth 100000 in
theorem mw_1242 : (Cond.codeWith ({ cls := "BroadcastCarouselLaw", name := "clientValue", desc := "(LBroadcastCarousel;II[J)I" } : MethodName) method_40_code (5 : Nat) (Option.some ClassFile.FieldType.int) [((0 : Nat), (10 : Nat), (13 : Nat), (13 : Nat)), ((0 : Nat), (10 : Nat), (17 : Nat), (19 : Nat))]) ∈ bc_wd := bc_mem 1242 (by rfl) (by decide +kernel)
set_option maxRecDepth 100000 in
theorem mw_1243 : (Cond.methodLink "BroadcastCarouselLaw" (132 : Nat) ({ cls := "BroadcastCarousel", name := "clientValue", desc := "(II)I" } : MethodName)) ∈ bc_wd := bc_mem 1243 (by rfl) (by decide +kernel)
set_option maxRecDepth 100000 in
theorem mw_1244 : (Cond.instanceMethod ({ cls := "BroadcastCarousel", name := "clientValue", desc := "(II)I" } : MethodName)) ∈ bc_wd := bc_mem 1244 (by rfl) (by decide +kernel)
set_option maxRecDepth 100000 in
theorem mw_1245 : (Cond.selects "BroadcastCarousel" ({ cls := "BroadcastCarousel", name := "clientValue", desc := "(II)I" } : MethodName) ({ cls := "BroadcastCarousel", name := "clientValue", desc := "(II)I" } : MethodName)) ∈ bc_wd := bc_mem 1245 (by rfl) (by decide +kernel)
set_option maxRecDepth 100000 in
theorem mw_1246 : (Cond.code ({ cls := "BroadcastCarousel", name := "clientValue", desc := "(II)I" } : MethodName) prog_1_method_46_code (4 : Nat) (Option.some ClassFile.FieldType.int)) ∈ bc_wd := bc_mem 1246 (by rfl) (by decide +kernel)
set_option maxRecDepth 100000 in
theorem mw_1247 : (Cond.methodLink "BroadcastCarouselLaw" (296 : Nat) ({ cls := "BroadcastCarouselLaw", name := "cache", desc := "(LBroadcastCarousel;I[J)I" } : MethodName)) ∈ bc_wd := bc_mem 1247 (by rfl) (by decide +kernel)
set_option maxRecDepth 100000 in
theorem mw_1248 : (Cond.static ({ cls := "BroadcastCarouselLaw", name := "cache", desc := "(LBroadcastCarousel;I[J)I" } : MethodName)) ∈ bc_wd := bc_mem 1248 (by rfl) (by decide +kernel)
set_option maxRecDepth 100000 in
theorem mw_1249 : (Cond.codeWith ({ cls := "BroadcastCarouselLaw", name := "cache", desc := "(LBroadcastCarousel;I[J)I" } : MethodName) method_41_code (4 : Nat) (Option.some ClassFile.FieldType.int) [((0 : Nat), (9 : Nat), (12 : Nat), (13 : Nat)), ((0 : Nat), (9 : Nat), (15 : Nat), (19 : Nat))]) ∈ bc_wd := bc_mem 1249 (by rfl) (by decide +kernel)
set_option maxRecDepth 100000 in
theorem mw_1250 : (Cond.methodLink "BroadcastCarouselLaw" (135 : Nat) ({ cls := "BroadcastCarousel", name := "cache", desc := "(I)I" } : MethodName)) ∈ bc_wd := bc_mem 1250 (by rfl) (by decide +kernel)
set_option maxRecDepth 100000 in
theorem mw_1251 : (Cond.instanceMethod ({ cls := "BroadcastCarousel", name := "cache", desc := "(I)I" } : MethodName)) ∈ bc_wd := bc_mem 1251 (by rfl) (by decide +kernel)
set_option maxRecDepth 100000 in
theorem mw_1252 : (Cond.selects "BroadcastCarousel" ({ cls := "BroadcastCarousel", name := "cache", desc := "(I)I" } : MethodName) ({ cls := "BroadcastCarousel", name := "cache", desc := "(I)I" } : MethodName)) ∈ bc_wd := bc_mem 1252 (by rfl) (by decide +kernel)
set_option maxRecDepth 100000 in
theorem mw_1253 : (Cond.code ({ cls := "BroadcastCarousel", name := "cache", desc := "(I)I" } : MethodName) prog_1_method_47_code (2 : Nat) (Option.some ClassFile.FieldType.int)) ∈ bc_wd := bc_mem 1253 (by rfl) (by decide +kernel)
set_option maxRecDepth 100000 in
theorem mw_1254 : (Cond.methodLink "BroadcastCarouselLaw" (299 : Nat) ({ cls := "BroadcastCarouselLaw", name := "requests", desc := "(LBroadcastCarousel;II[J)I" } : MethodName)) ∈ bc_wd := bc_mem 1254 (by rfl) (by decide +kernel)
set_option maxRecDepth 100000 in
theorem mw_1255 : (Cond.static ({ cls := "BroadcastCarouselLaw", name := "requests", desc := "(LBroadcastCarousel;II[J)I" } : MethodName)) ∈ bc_wd := bc_mem 1255 (by rfl) (by decide +kernel)
set_option maxRecDepth 100000 in
theorem mw_1256 : (Cond.codeWith ({ cls := "BroadcastCarouselLaw", name := "requests", desc := "(LBroadcastCarousel;II[J)I" } : MethodName) method_42_code (5 : Nat) (Option.some ClassFile.FieldType.int) [((0 : Nat), (10 : Nat), (13 : Nat), (13 : Nat)), ((0 : Nat), (10 : Nat), (17 : Nat), (19 : Nat))]) ∈ bc_wd := bc_mem 1256 (by rfl) (by decide +kernel)
set_option maxRecDepth 100000 in
theorem mw_1257 : (Cond.methodLink "BroadcastCarouselLaw" (138 : Nat) ({ cls := "BroadcastCarousel", name := "requests", desc := "(II)I" } : MethodName)) ∈ bc_wd := bc_mem 1257 (by rfl) (by decide +kernel)
set_option maxRecDepth 100000 in
theorem mw_1258 : (Cond.instanceMethod ({ cls := "BroadcastCarousel", name := "requests", desc := "(II)I" } : MethodName)) ∈ bc_wd := bc_mem 1258 (by rfl) (by decide +kernel)
set_option maxRecDepth 100000 in
theorem mw_1259 : (Cond.selects "BroadcastCarousel" ({ cls := "BroadcastCarousel", name := "requests", desc := "(II)I" } : MethodName) ({ cls := "BroadcastCarousel", name := "requests", desc := "(II)I" } : MethodName)) ∈ bc_wd := bc_mem 1259 (by rfl) (by decide +kernel)
set_option maxRecDepth 100000 in
theorem mw_1260 : (Cond.code ({ cls := "BroadcastCarousel", name := "requests", desc := "(II)I" } : MethodName) prog_1_method_48_code (3 : Nat) (Option.some ClassFile.FieldType.int)) ∈ bc_wd := bc_mem 1260 (by rfl) (by decide +kernel)
set_option maxRecDepth 100000 in
theorem mw_1261 : (Cond.methodLink "BroadcastCarouselLaw" (302 : Nat) ({ cls := "BroadcastCarouselLaw", name := "victim", desc := "(LBroadcastCarousel;II[J)I" } : MethodName)) ∈ bc_wd := bc_mem 1261 (by rfl) (by decide +kernel)
set_option maxRecDepth 100000 in
theorem mw_1262 : (Cond.static ({ cls := "BroadcastCarouselLaw", name := "victim", desc := "(LBroadcastCarousel;II[J)I" } : MethodName)) ∈ bc_wd := bc_mem 1262 (by rfl) (by decide +kernel)
set_option maxRecDepth 100000 in
theorem mw_1263 : (Cond.codeWith ({ cls := "BroadcastCarouselLaw", name := "victim", desc := "(LBroadcastCarousel;II[J)I" } : MethodName) method_43_code (5 : Nat) (Option.some ClassFile.FieldType.int) [((0 : Nat), (10 : Nat), (13 : Nat), (13 : Nat)), ((0 : Nat), (10 : Nat), (17 : Nat), (19 : Nat))]) ∈ bc_wd := bc_mem 1263 (by rfl) (by decide +kernel)
set_option maxRecDepth 100000 in
theorem mw_1264 : (Cond.methodLink "BroadcastCarouselLaw" (141 : Nat) ({ cls := "BroadcastCarousel", name := "victim", desc := "(II)I" } : MethodName)) ∈ bc_wd := bc_mem 1264 (by rfl) (by decide +kernel)
set_option maxRecDepth 100000 in
theorem mw_1265 : (Cond.instanceMethod ({ cls := "BroadcastCarousel", name := "victim", desc := "(II)I" } : MethodName)) ∈ bc_wd := bc_mem 1265 (by rfl) (by decide +kernel)
set_option maxRecDepth 100000 in
theorem mw_1266 : (Cond.selects "BroadcastCarousel" ({ cls := "BroadcastCarousel", name := "victim", desc := "(II)I" } : MethodName) ({ cls := "BroadcastCarousel", name := "victim", desc := "(II)I" } : MethodName)) ∈ bc_wd := bc_mem 1266 (by rfl) (by decide +kernel)
set_option maxRecDepth 100000 in
theorem mw_1267 : (Cond.code ({ cls := "BroadcastCarousel", name := "victim", desc := "(II)I" } : MethodName) prog_1_method_49_code (3 : Nat) (Option.some ClassFile.FieldType.int)) ∈ bc_wd := bc_mem 1267 (by rfl) (by decide +kernel)
set_option maxRecDepth 100000 in
theorem mw_1271 : (Cond.methodLink "BroadcastCarouselLaw" (305 : Nat) ({ cls := "BroadcastCarouselLaw", name := "soonest", desc := "(LBroadcastCarousel;II[J)I" } : MethodName)) ∈ bc_wd := bc_mem 1271 (by rfl) (by decide +kernel)
set_option maxRecDepth 100000 in
theorem mw_1272 : (Cond.static ({ cls := "BroadcastCarouselLaw", name := "soonest", desc := "(LBroadcastCarousel;II[J)I" } : MethodName)) ∈ bc_wd := bc_mem 1272 (by rfl) (by decide +kernel)
set_option maxRecDepth 100000 in
theorem mw_1273 : (Cond.codeWith ({ cls := "BroadcastCarouselLaw", name := "soonest", desc := "(LBroadcastCarousel;II[J)I" } : MethodName) method_44_code (5 : Nat) (Option.some ClassFile.FieldType.int) [((0 : Nat), (10 : Nat), (13 : Nat), (13 : Nat)), ((0 : Nat), (10 : Nat), (17 : Nat), (19 : Nat))]) ∈ bc_wd := bc_mem 1273 (by rfl) (by decide +kernel)
set_option maxRecDepth 100000 in
theorem mw_1274 : (Cond.methodLink "BroadcastCarouselLaw" (144 : Nat) ({ cls := "BroadcastCarousel", name := "soonest", desc := "(II)I" } : MethodName)) ∈ bc_wd := bc_mem 1274 (by rfl) (by decide +kernel)
set_option maxRecDepth 100000 in
theorem mw_1275 : (Cond.instanceMethod ({ cls := "BroadcastCarousel", name := "soonest", desc := "(II)I" } : MethodName)) ∈ bc_wd := bc_mem 1275 (by rfl) (by decide +kernel)
set_option maxRecDepth 100000 in
theorem mw_1276 : (Cond.selects "BroadcastCarousel" ({ cls := "BroadcastCarousel", name := "soonest", desc := "(II)I" } : MethodName) ({ cls := "BroadcastCarousel", name := "soonest", desc := "(II)I" } : MethodName)) ∈ bc_wd := bc_mem 1276 (by rfl) (by decide +kernel)
set_option maxRecDepth 100000 in
theorem mw_1277 : (Cond.code ({ cls := "BroadcastCarousel", name := "soonest", desc := "(II)I" } : MethodName) prog_1_method_50_code (5 : Nat) (Option.some ClassFile.FieldType.int)) ∈ bc_wd := bc_mem 1277 (by rfl) (by decide +kernel)
set_option maxRecDepth 100000 in
theorem mw_1286 : (Cond.methodLink "BroadcastCarouselLaw" (308 : Nat) ({ cls := "BroadcastCarouselLaw", name := "hint", desc := "(LBroadcastCarousel;I[J)I" } : MethodName)) ∈ bc_wd := bc_mem 1286 (by rfl) (by decide +kernel)
set_option maxRecDepth 100000 in
theorem mw_1287 : (Cond.static ({ cls := "BroadcastCarouselLaw", name := "hint", desc := "(LBroadcastCarousel;I[J)I" } : MethodName)) ∈ bc_wd := bc_mem 1287 (by rfl) (by decide +kernel)
set_option maxRecDepth 100000 in
theorem mw_1288 : (Cond.codeWith ({ cls := "BroadcastCarouselLaw", name := "hint", desc := "(LBroadcastCarousel;I[J)I" } : MethodName) method_45_code (4 : Nat) (Option.some ClassFile.FieldType.int) [((0 : Nat), (9 : Nat), (12 : Nat), (13 : Nat)), ((0 : Nat), (9 : Nat), (15 : Nat), (19 : Nat))]) ∈ bc_wd := bc_mem 1288 (by rfl) (by decide +kernel)
set_option maxRecDepth 100000 in
theorem mw_1289 : (Cond.methodLink "BroadcastCarouselLaw" (147 : Nat) ({ cls := "BroadcastCarousel", name := "hint", desc := "(I)I" } : MethodName)) ∈ bc_wd := bc_mem 1289 (by rfl) (by decide +kernel)
set_option maxRecDepth 100000 in
theorem mw_1290 : (Cond.instanceMethod ({ cls := "BroadcastCarousel", name := "hint", desc := "(I)I" } : MethodName)) ∈ bc_wd := bc_mem 1290 (by rfl) (by decide +kernel)
set_option maxRecDepth 100000 in
theorem mw_1291 : (Cond.selects "BroadcastCarousel" ({ cls := "BroadcastCarousel", name := "hint", desc := "(I)I" } : MethodName) ({ cls := "BroadcastCarousel", name := "hint", desc := "(I)I" } : MethodName)) ∈ bc_wd := bc_mem 1291 (by rfl) (by decide +kernel)
set_option maxRecDepth 100000 in
theorem mw_1292 : (Cond.code ({ cls := "BroadcastCarousel", name := "hint", desc := "(I)I" } : MethodName) prog_1_method_51_code (3 : Nat) (Option.some ClassFile.FieldType.int)) ∈ bc_wd := bc_mem 1292 (by rfl) (by decide +kernel)
set_option maxRecDepth 100000 in
theorem mw_1293 : (Cond.methodLink "BroadcastCarouselLaw" (311 : Nat) ({ cls := "BroadcastCarouselLaw", name := "planTime", desc := "(LBroadcastCarousel;II[J)I" } : MethodName)) ∈ bc_wd := bc_mem 1293 (by rfl) (by decide +kernel)
set_option maxRecDepth 100000 in
theorem mw_1294 : (Cond.static ({ cls := "BroadcastCarouselLaw", name := "planTime", desc := "(LBroadcastCarousel;II[J)I" } : MethodName)) ∈ bc_wd := bc_mem 1294 (by rfl) (by decide +kernel)
set_option maxRecDepth 100000 in
theorem mw_1295 : (Cond.codeWith ({ cls := "BroadcastCarouselLaw", name := "planTime", desc := "(LBroadcastCarousel;II[J)I" } : MethodName) method_46_code (5 : Nat) (Option.some ClassFile.FieldType.int) [((0 : Nat), (10 : Nat), (13 : Nat), (13 : Nat)), ((0 : Nat), (10 : Nat), (17 : Nat), (19 : Nat))]) ∈ bc_wd := bc_mem 1295 (by rfl) (by decide +kernel)
set_option maxRecDepth 100000 in
theorem mw_1296 : (Cond.methodLink "BroadcastCarouselLaw" (150 : Nat) ({ cls := "BroadcastCarousel", name := "planTime", desc := "(II)I" } : MethodName)) ∈ bc_wd := bc_mem 1296 (by rfl) (by decide +kernel)
set_option maxRecDepth 100000 in
theorem mw_1297 : (Cond.instanceMethod ({ cls := "BroadcastCarousel", name := "planTime", desc := "(II)I" } : MethodName)) ∈ bc_wd := bc_mem 1297 (by rfl) (by decide +kernel)
set_option maxRecDepth 100000 in
theorem mw_1298 : (Cond.selects "BroadcastCarousel" ({ cls := "BroadcastCarousel", name := "planTime", desc := "(II)I" } : MethodName) ({ cls := "BroadcastCarousel", name := "planTime", desc := "(II)I" } : MethodName)) ∈ bc_wd := bc_mem 1298 (by rfl) (by decide +kernel)
set_option maxRecDepth 100000 in
theorem mw_1299 : (Cond.code ({ cls := "BroadcastCarousel", name := "planTime", desc := "(II)I" } : MethodName) prog_1_method_54_code (3 : Nat) (Option.some ClassFile.FieldType.int)) ∈ bc_wd := bc_mem 1299 (by rfl) (by decide +kernel)
set_option maxRecDepth 100000 in
theorem mw_1328 : (Cond.methodLink "BroadcastCarouselLaw" (314 : Nat) ({ cls := "BroadcastCarouselLaw", name := "planItem", desc := "(LBroadcastCarousel;III[J)I" } : MethodName)) ∈ bc_wd := bc_mem 1328 (by rfl) (by decide +kernel)
set_option maxRecDepth 100000 in
theorem mw_1329 : (Cond.static ({ cls := "BroadcastCarouselLaw", name := "planItem", desc := "(LBroadcastCarousel;III[J)I" } : MethodName)) ∈ bc_wd := bc_mem 1329 (by rfl) (by decide +kernel)
set_option maxRecDepth 100000 in
theorem mw_1330 : (Cond.codeWith ({ cls := "BroadcastCarouselLaw", name := "planItem", desc := "(LBroadcastCarousel;III[J)I" } : MethodName) method_47_code (6 : Nat) (Option.some ClassFile.FieldType.int) [((0 : Nat), (12 : Nat), (15 : Nat), (13 : Nat)), ((0 : Nat), (12 : Nat), (19 : Nat), (19 : Nat))]) ∈ bc_wd := bc_mem 1330 (by rfl) (by decide +kernel)
set_option maxRecDepth 100000 in
theorem mw_1331 : (Cond.methodLink "BroadcastCarouselLaw" (153 : Nat) ({ cls := "BroadcastCarousel", name := "planItem", desc := "(III)I" } : MethodName)) ∈ bc_wd := bc_mem 1331 (by rfl) (by decide +kernel)
set_option maxRecDepth 100000 in
theorem mw_1332 : (Cond.instanceMethod ({ cls := "BroadcastCarousel", name := "planItem", desc := "(III)I" } : MethodName)) ∈ bc_wd := bc_mem 1332 (by rfl) (by decide +kernel)
set_option maxRecDepth 100000 in
theorem mw_1333 : (Cond.selects "BroadcastCarousel" ({ cls := "BroadcastCarousel", name := "planItem", desc := "(III)I" } : MethodName) ({ cls := "BroadcastCarousel", name := "planItem", desc := "(III)I" } : MethodName)) ∈ bc_wd := bc_mem 1333 (by rfl) (by decide +kernel)
set_option maxRecDepth 100000 in
theorem mw_1334 : (Cond.code ({ cls := "BroadcastCarousel", name := "planItem", desc := "(III)I" } : MethodName) prog_1_method_55_code (4 : Nat) (Option.some ClassFile.FieldType.int)) ∈ bc_wd := bc_mem 1334 (by rfl) (by decide +kernel)
set_option maxRecDepth 100000 in
theorem mw_1335 : (Cond.methodLink "BroadcastCarouselLaw" (318 : Nat) ({ cls := "BroadcastCarouselLaw", name := "undo", desc := "(LBroadcastCarousel;[J)I" } : MethodName)) ∈ bc_wd := bc_mem 1335 (by rfl) (by decide +kernel)
set_option maxRecDepth 100000 in
theorem mw_1336 : (Cond.static ({ cls := "BroadcastCarouselLaw", name := "undo", desc := "(LBroadcastCarousel;[J)I" } : MethodName)) ∈ bc_wd := bc_mem 1336 (by rfl) (by decide +kernel)
set_option maxRecDepth 100000 in
theorem mw_1337 : (Cond.codeWith ({ cls := "BroadcastCarouselLaw", name := "undo", desc := "(LBroadcastCarousel;[J)I" } : MethodName) method_48_code (3 : Nat) (Option.some ClassFile.FieldType.int) [((0 : Nat), (8 : Nat), (11 : Nat), (13 : Nat))]) ∈ bc_wd := bc_mem 1337 (by rfl) (by decide +kernel)
set_option maxRecDepth 100000 in
theorem mw_1338 : (Cond.methodLink "BroadcastCarouselLaw" (157 : Nat) ({ cls := "BroadcastCarousel", name := "undo", desc := "()I" } : MethodName)) ∈ bc_wd := bc_mem 1338 (by rfl) (by decide +kernel)
set_option maxRecDepth 100000 in
theorem mw_1339 : (Cond.instanceMethod ({ cls := "BroadcastCarousel", name := "undo", desc := "()I" } : MethodName)) ∈ bc_wd := bc_mem 1339 (by rfl) (by decide +kernel)
set_option maxRecDepth 100000 in
theorem mw_1340 : (Cond.selects "BroadcastCarousel" ({ cls := "BroadcastCarousel", name := "undo", desc := "()I" } : MethodName) ({ cls := "BroadcastCarousel", name := "undo", desc := "()I" } : MethodName)) ∈ bc_wd := bc_mem 1340 (by rfl) (by decide +kernel)
set_option maxRecDepth 100000 in
theorem mw_1341 : (Cond.code ({ cls := "BroadcastCarousel", name := "undo", desc := "()I" } : MethodName) prog_1_method_56_code (1 : Nat) (Option.some ClassFile.FieldType.int)) ∈ bc_wd := bc_mem 1341 (by rfl) (by decide +kernel)
set_option maxRecDepth 100000 in
theorem mw_1479 : (Cond.methodLink "BroadcastCarouselLaw" (170 : Nat) ({ cls := "BroadcastCarouselModel", name := "thrown", desc := "()I" } : MethodName)) ∈ bc_wd := bc_mem 1479 (by rfl) (by decide +kernel)
set_option maxRecDepth 100000 in
theorem mw_1480 : (Cond.instanceMethod ({ cls := "BroadcastCarouselModel", name := "thrown", desc := "()I" } : MethodName)) ∈ bc_wd := bc_mem 1480 (by rfl) (by decide +kernel)
set_option maxRecDepth 100000 in
theorem mw_1481 : (Cond.selects "BroadcastCarouselModel" ({ cls := "BroadcastCarouselModel", name := "thrown", desc := "()I" } : MethodName) ({ cls := "BroadcastCarouselModel", name := "thrown", desc := "()I" } : MethodName)) ∈ bc_wd := bc_mem 1481 (by rfl) (by decide +kernel)
set_option maxRecDepth 100000 in
theorem mw_1482 : (Cond.code ({ cls := "BroadcastCarouselModel", name := "thrown", desc := "()I" } : MethodName) prog_11_method_2_code (1 : Nat) (Option.some ClassFile.FieldType.int)) ∈ bc_wd := bc_mem 1482 (by rfl) (by decide +kernel)
set_option maxRecDepth 100000 in
theorem mw_1483 : (Cond.methodLink "BroadcastCarouselLaw" (169 : Nat) ({ cls := "BroadcastCarouselModel", name := "append", desc := "(IIIII)I" } : MethodName)) ∈ bc_wd := bc_mem 1483 (by rfl) (by decide +kernel)
set_option maxRecDepth 100000 in
theorem mw_1484 : (Cond.instanceMethod ({ cls := "BroadcastCarouselModel", name := "append", desc := "(IIIII)I" } : MethodName)) ∈ bc_wd := bc_mem 1484 (by rfl) (by decide +kernel)
set_option maxRecDepth 100000 in
theorem mw_1485 : (Cond.selects "BroadcastCarouselModel" ({ cls := "BroadcastCarouselModel", name := "append", desc := "(IIIII)I" } : MethodName) ({ cls := "BroadcastCarouselModel", name := "append", desc := "(IIIII)I" } : MethodName)) ∈ bc_wd := bc_mem 1485 (by rfl) (by decide +kernel)
set_option maxRecDepth 100000 in
theorem mw_1486 : (Cond.code ({ cls := "BroadcastCarouselModel", name := "append", desc := "(IIIII)I" } : MethodName) prog_11_method_11_code (6 : Nat) (Option.some ClassFile.FieldType.int)) ∈ bc_wd := bc_mem 1486 (by rfl) (by decide +kernel)
set_option maxRecDepth 100000 in
theorem mw_1491 : (Cond.methodLink "BroadcastCarouselLaw" (176 : Nat) ({ cls := "BroadcastCarouselModel", name := "truncate", desc := "(I)I" } : MethodName)) ∈ bc_wd := bc_mem 1491 (by rfl) (by decide +kernel)
set_option maxRecDepth 100000 in
theorem mw_1492 : (Cond.instanceMethod ({ cls := "BroadcastCarouselModel", name := "truncate", desc := "(I)I" } : MethodName)) ∈ bc_wd := bc_mem 1492 (by rfl) (by decide +kernel)
set_option maxRecDepth 100000 in
theorem mw_1493 : (Cond.selects "BroadcastCarouselModel" ({ cls := "BroadcastCarouselModel", name := "truncate", desc := "(I)I" } : MethodName) ({ cls := "BroadcastCarouselModel", name := "truncate", desc := "(I)I" } : MethodName)) ∈ bc_wd := bc_mem 1493 (by rfl) (by decide +kernel)
set_option maxRecDepth 100000 in
theorem mw_1494 : (Cond.code ({ cls := "BroadcastCarouselModel", name := "truncate", desc := "(I)I" } : MethodName) prog_11_method_12_code (2 : Nat) (Option.some ClassFile.FieldType.int)) ∈ bc_wd := bc_mem 1494 (by rfl) (by decide +kernel)
set_option maxRecDepth 100000 in
theorem mw_1498 : (Cond.methodLink "BroadcastCarouselLaw" (180 : Nat) ({ cls := "BroadcastCarouselModel", name := "load", desc := "()I" } : MethodName)) ∈ bc_wd := bc_mem 1498 (by rfl) (by decide +kernel)
set_option maxRecDepth 100000 in
theorem mw_1499 : (Cond.instanceMethod ({ cls := "BroadcastCarouselModel", name := "load", desc := "()I" } : MethodName)) ∈ bc_wd := bc_mem 1499 (by rfl) (by decide +kernel)
set_option maxRecDepth 100000 in
theorem mw_1500 : (Cond.selects "BroadcastCarouselModel" ({ cls := "BroadcastCarouselModel", name := "load", desc := "()I" } : MethodName) ({ cls := "BroadcastCarouselModel", name := "load", desc := "()I" } : MethodName)) ∈ bc_wd := bc_mem 1500 (by rfl) (by decide +kernel)
set_option maxRecDepth 100000 in
theorem mw_1501 : (Cond.code ({ cls := "BroadcastCarouselModel", name := "load", desc := "()I" } : MethodName) prog_11_method_26_code (1 : Nat) (Option.some ClassFile.FieldType.int)) ∈ bc_wd := bc_mem 1501 (by rfl) (by decide +kernel)
set_option maxRecDepth 100000 in
theorem mw_1571 : (Cond.methodLink "BroadcastCarouselLaw" (184 : Nat) ({ cls := "BroadcastCarouselModel", name := "errorPosition", desc := "()I" } : MethodName)) ∈ bc_wd := bc_mem 1571 (by rfl) (by decide +kernel)
set_option maxRecDepth 100000 in
theorem mw_1572 : (Cond.instanceMethod ({ cls := "BroadcastCarouselModel", name := "errorPosition", desc := "()I" } : MethodName)) ∈ bc_wd := bc_mem 1572 (by rfl) (by decide +kernel)
set_option maxRecDepth 100000 in
theorem mw_1573 : (Cond.selects "BroadcastCarouselModel" ({ cls := "BroadcastCarouselModel", name := "errorPosition", desc := "()I" } : MethodName) ({ cls := "BroadcastCarouselModel", name := "errorPosition", desc := "()I" } : MethodName)) ∈ bc_wd := bc_mem 1573 (by rfl) (by decide +kernel)
set_option maxRecDepth 100000 in
theorem mw_1574 : (Cond.code ({ cls := "BroadcastCarouselModel", name := "errorPosition", desc := "()I" } : MethodName) prog_11_method_28_code (1 : Nat) (Option.some ClassFile.FieldType.int)) ∈ bc_wd := bc_mem 1574 (by rfl) (by decide +kernel)
set_option maxRecDepth 100000 in
theorem mw_1575 : (Cond.methodLink "BroadcastCarouselLaw" (320 : Nat) ({ cls := "BroadcastCarouselModel", name := "undo", desc := "()I" } : MethodName)) ∈ bc_wd := bc_mem 1575 (by rfl) (by decide +kernel)
set_option maxRecDepth 100000 in
theorem mw_1576 : (Cond.instanceMethod ({ cls := "BroadcastCarouselModel", name := "undo", desc := "()I" } : MethodName)) ∈ bc_wd := bc_mem 1576 (by rfl) (by decide +kernel)
set_option maxRecDepth 100000 in
theorem mw_1577 : (Cond.selects "BroadcastCarouselModel" ({ cls := "BroadcastCarouselModel", name := "undo", desc := "()I" } : MethodName) ({ cls := "BroadcastCarouselModel", name := "undo", desc := "()I" } : MethodName)) ∈ bc_wd := bc_mem 1577 (by rfl) (by decide +kernel)
set_option maxRecDepth 100000 in
theorem mw_1578 : (Cond.code ({ cls := "BroadcastCarouselModel", name := "undo", desc := "()I" } : MethodName) prog_11_method_30_code (2 : Nat) (Option.some ClassFile.FieldType.int)) ∈ bc_wd := bc_mem 1578 (by rfl) (by decide +kernel)
set_option maxRecDepth 100000 in
theorem mw_1583 : (Cond.methodLink "BroadcastCarouselLaw" (188 : Nat) ({ cls := "BroadcastCarouselModel", name := "request", desc := "(II)I" } : MethodName)) ∈ bc_wd := bc_mem 1583 (by rfl) (by decide +kernel)
set_option maxRecDepth 100000 in
theorem mw_1584 : (Cond.instanceMethod ({ cls := "BroadcastCarouselModel", name := "request", desc := "(II)I" } : MethodName)) ∈ bc_wd := bc_mem 1584 (by rfl) (by decide +kernel)
set_option maxRecDepth 100000 in
theorem mw_1585 : (Cond.selects "BroadcastCarouselModel" ({ cls := "BroadcastCarouselModel", name := "request", desc := "(II)I" } : MethodName) ({ cls := "BroadcastCarouselModel", name := "request", desc := "(II)I" } : MethodName)) ∈ bc_wd := bc_mem 1585 (by rfl) (by decide +kernel)
set_option maxRecDepth 100000 in
theorem mw_1586 : (Cond.code ({ cls := "BroadcastCarouselModel", name := "request", desc := "(II)I" } : MethodName) prog_11_method_52_code (3 : Nat) (Option.some ClassFile.FieldType.int)) ∈ bc_wd := bc_mem 1586 (by rfl) (by decide +kernel)
set_option maxRecDepth 100000 in
theorem mw_1660 : (Cond.methodLink "BroadcastCarouselLaw" (191 : Nat) ({ cls := "BroadcastCarouselModel", name := "think", desc := "(II)I" } : MethodName)) ∈ bc_wd := bc_mem 1660 (by rfl) (by decide +kernel)
set_option maxRecDepth 100000 in
theorem mw_1661 : (Cond.instanceMethod ({ cls := "BroadcastCarouselModel", name := "think", desc := "(II)I" } : MethodName)) ∈ bc_wd := bc_mem 1661 (by rfl) (by decide +kernel)
set_option maxRecDepth 100000 in
theorem mw_1662 : (Cond.selects "BroadcastCarouselModel" ({ cls := "BroadcastCarouselModel", name := "think", desc := "(II)I" } : MethodName) ({ cls := "BroadcastCarouselModel", name := "think", desc := "(II)I" } : MethodName)) ∈ bc_wd := bc_mem 1662 (by rfl) (by decide +kernel)
set_option maxRecDepth 100000 in
theorem mw_1663 : (Cond.code ({ cls := "BroadcastCarouselModel", name := "think", desc := "(II)I" } : MethodName) prog_11_method_53_code (3 : Nat) (Option.some ClassFile.FieldType.int)) ∈ bc_wd := bc_mem 1663 (by rfl) (by decide +kernel)
set_option maxRecDepth 100000 in
theorem mw_1669 : (Cond.methodLink "BroadcastCarouselLaw" (194 : Nat) ({ cls := "BroadcastCarouselModel", name := "setPopularity", desc := "(II)I" } : MethodName)) ∈ bc_wd := bc_mem 1669 (by rfl) (by decide +kernel)
set_option maxRecDepth 100000 in
theorem mw_1670 : (Cond.instanceMethod ({ cls := "BroadcastCarouselModel", name := "setPopularity", desc := "(II)I" } : MethodName)) ∈ bc_wd := bc_mem 1670 (by rfl) (by decide +kernel)
set_option maxRecDepth 100000 in
theorem mw_1671 : (Cond.selects "BroadcastCarouselModel" ({ cls := "BroadcastCarouselModel", name := "setPopularity", desc := "(II)I" } : MethodName) ({ cls := "BroadcastCarouselModel", name := "setPopularity", desc := "(II)I" } : MethodName)) ∈ bc_wd := bc_mem 1671 (by rfl) (by decide +kernel)
set_option maxRecDepth 100000 in
theorem mw_1672 : (Cond.code ({ cls := "BroadcastCarouselModel", name := "setPopularity", desc := "(II)I" } : MethodName) prog_11_method_55_code (3 : Nat) (Option.some ClassFile.FieldType.int)) ∈ bc_wd := bc_mem 1672 (by rfl) (by decide +kernel)
set_option maxRecDepth 100000 in
theorem mw_1678 : (Cond.methodLink "BroadcastCarouselLaw" (197 : Nat) ({ cls := "BroadcastCarouselModel", name := "setBound", desc := "(II)I" } : MethodName)) ∈ bc_wd := bc_mem 1678 (by rfl) (by decide +kernel)
set_option maxRecDepth 100000 in
theorem mw_1679 : (Cond.instanceMethod ({ cls := "BroadcastCarouselModel", name := "setBound", desc := "(II)I" } : MethodName)) ∈ bc_wd := bc_mem 1679 (by rfl) (by decide +kernel)
set_option maxRecDepth 100000 in
theorem mw_1680 : (Cond.selects "BroadcastCarouselModel" ({ cls := "BroadcastCarouselModel", name := "setBound", desc := "(II)I" } : MethodName) ({ cls := "BroadcastCarouselModel", name := "setBound", desc := "(II)I" } : MethodName)) ∈ bc_wd := bc_mem 1680 (by rfl) (by decide +kernel)
set_option maxRecDepth 100000 in
theorem mw_1681 : (Cond.code ({ cls := "BroadcastCarouselModel", name := "setBound", desc := "(II)I" } : MethodName) prog_11_method_56_code (3 : Nat) (Option.some ClassFile.FieldType.int)) ∈ bc_wd := bc_mem 1681 (by rfl) (by decide +kernel)
set_option maxRecDepth 100000 in
theorem mw_1683 : (Cond.methodLink "BroadcastCarouselLaw" (200 : Nat) ({ cls := "BroadcastCarouselModel", name := "setFrequency", desc := "(II)I" } : MethodName)) ∈ bc_wd := bc_mem 1683 (by rfl) (by decide +kernel)
set_option maxRecDepth 100000 in
theorem mw_1684 : (Cond.instanceMethod ({ cls := "BroadcastCarouselModel", name := "setFrequency", desc := "(II)I" } : MethodName)) ∈ bc_wd := bc_mem 1684 (by rfl) (by decide +kernel)
set_option maxRecDepth 100000 in
theorem mw_1685 : (Cond.selects "BroadcastCarouselModel" ({ cls := "BroadcastCarouselModel", name := "setFrequency", desc := "(II)I" } : MethodName) ({ cls := "BroadcastCarouselModel", name := "setFrequency", desc := "(II)I" } : MethodName)) ∈ bc_wd := bc_mem 1685 (by rfl) (by decide +kernel)
set_option maxRecDepth 100000 in
theorem mw_1686 : (Cond.code ({ cls := "BroadcastCarouselModel", name := "setFrequency", desc := "(II)I" } : MethodName) prog_11_method_57_code (3 : Nat) (Option.some ClassFile.FieldType.int)) ∈ bc_wd := bc_mem 1686 (by rfl) (by decide +kernel)
set_option maxRecDepth 100000 in
theorem mw_1692 : (Cond.methodLink "BroadcastCarouselLaw" (203 : Nat) ({ cls := "BroadcastCarouselModel", name := "setIndex", desc := "(II)I" } : MethodName)) ∈ bc_wd := bc_mem 1692 (by rfl) (by decide +kernel)
set_option maxRecDepth 100000 in
theorem mw_1693 : (Cond.instanceMethod ({ cls := "BroadcastCarouselModel", name := "setIndex", desc := "(II)I" } : MethodName)) ∈ bc_wd := bc_mem 1693 (by rfl) (by decide +kernel)
set_option maxRecDepth 100000 in
theorem mw_1694 : (Cond.selects "BroadcastCarouselModel" ({ cls := "BroadcastCarouselModel", name := "setIndex", desc := "(II)I" } : MethodName) ({ cls := "BroadcastCarouselModel", name := "setIndex", desc := "(II)I" } : MethodName)) ∈ bc_wd := bc_mem 1694 (by rfl) (by decide +kernel)
set_option maxRecDepth 100000 in
theorem mw_1695 : (Cond.code ({ cls := "BroadcastCarouselModel", name := "setIndex", desc := "(II)I" } : MethodName) prog_11_method_58_code (3 : Nat) (Option.some ClassFile.FieldType.int)) ∈ bc_wd := bc_mem 1695 (by rfl) (by decide +kernel)
set_option maxRecDepth 100000 in
theorem mw_1698 : (Cond.methodLink "BroadcastCarouselLaw" (206 : Nat) ({ cls := "BroadcastCarouselModel", name := "moveItem", desc := "(II)I" } : MethodName)) ∈ bc_wd := bc_mem 1698 (by rfl) (by decide +kernel)
set_option maxRecDepth 100000 in
theorem mw_1699 : (Cond.instanceMethod ({ cls := "BroadcastCarouselModel", name := "moveItem", desc := "(II)I" } : MethodName)) ∈ bc_wd := bc_mem 1699 (by rfl) (by decide +kernel)
set_option maxRecDepth 100000 in
theorem mw_1700 : (Cond.selects "BroadcastCarouselModel" ({ cls := "BroadcastCarouselModel", name := "moveItem", desc := "(II)I" } : MethodName) ({ cls := "BroadcastCarouselModel", name := "moveItem", desc := "(II)I" } : MethodName)) ∈ bc_wd := bc_mem 1700 (by rfl) (by decide +kernel)
set_option maxRecDepth 100000 in
theorem mw_1701 : (Cond.code ({ cls := "BroadcastCarouselModel", name := "moveItem", desc := "(II)I" } : MethodName) prog_11_method_59_code (3 : Nat) (Option.some ClassFile.FieldType.int)) ∈ bc_wd := bc_mem 1701 (by rfl) (by decide +kernel)
set_option maxRecDepth 100000 in
theorem mw_1702 : (Cond.methodLink "BroadcastCarouselLaw" (210 : Nat) ({ cls := "BroadcastCarouselModel", name := "repair", desc := "()I" } : MethodName)) ∈ bc_wd := bc_mem 1702 (by rfl) (by decide +kernel)
set_option maxRecDepth 100000 in
theorem mw_1703 : (Cond.instanceMethod ({ cls := "BroadcastCarouselModel", name := "repair", desc := "()I" } : MethodName)) ∈ bc_wd := bc_mem 1703 (by rfl) (by decide +kernel)
set_option maxRecDepth 100000 in
theorem mw_1704 : (Cond.selects "BroadcastCarouselModel" ({ cls := "BroadcastCarouselModel", name := "repair", desc := "()I" } : MethodName) ({ cls := "BroadcastCarouselModel", name := "repair", desc := "()I" } : MethodName)) ∈ bc_wd := bc_mem 1704 (by rfl) (by decide +kernel)
set_option maxRecDepth 100000 in
theorem mw_1705 : (Cond.code ({ cls := "BroadcastCarouselModel", name := "repair", desc := "()I" } : MethodName) prog_11_method_63_code (1 : Nat) (Option.some ClassFile.FieldType.int)) ∈ bc_wd := bc_mem 1705 (by rfl) (by decide +kernel)
set_option maxRecDepth 100000 in
theorem mw_1727 : (Cond.methodLink "BroadcastCarouselLaw" (213 : Nat) ({ cls := "BroadcastCarouselModel", name := "applyTiers", desc := "(I)I" } : MethodName)) ∈ bc_wd := bc_mem 1727 (by rfl) (by decide +kernel)
set_option maxRecDepth 100000 in
theorem mw_1728 : (Cond.instanceMethod ({ cls := "BroadcastCarouselModel", name := "applyTiers", desc := "(I)I" } : MethodName)) ∈ bc_wd := bc_mem 1728 (by rfl) (by decide +kernel)
set_option maxRecDepth 100000 in
theorem mw_1729 : (Cond.selects "BroadcastCarouselModel" ({ cls := "BroadcastCarouselModel", name := "applyTiers", desc := "(I)I" } : MethodName) ({ cls := "BroadcastCarouselModel", name := "applyTiers", desc := "(I)I" } : MethodName)) ∈ bc_wd := bc_mem 1729 (by rfl) (by decide +kernel)
set_option maxRecDepth 100000 in
theorem mw_1730 : (Cond.code ({ cls := "BroadcastCarouselModel", name := "applyTiers", desc := "(I)I" } : MethodName) prog_11_method_69_code (4 : Nat) (Option.some ClassFile.FieldType.int)) ∈ bc_wd := bc_mem 1730 (by rfl) (by decide +kernel)
set_option maxRecDepth 100000 in
theorem mw_1763 : (Cond.methodLink "BroadcastCarouselLaw" (216 : Nat) ({ cls := "BroadcastCarouselModel", name := "itemValue", desc := "(II)I" } : MethodName)) ∈ bc_wd := bc_mem 1763 (by rfl) (by decide +kernel)
set_option maxRecDepth 100000 in
theorem mw_1764 : (Cond.instanceMethod ({ cls := "BroadcastCarouselModel", name := "itemValue", desc := "(II)I" } : MethodName)) ∈ bc_wd := bc_mem 1764 (by rfl) (by decide +kernel)
set_option maxRecDepth 100000 in
theorem mw_1765 : (Cond.selects "BroadcastCarouselModel" ({ cls := "BroadcastCarouselModel", name := "itemValue", desc := "(II)I" } : MethodName) ({ cls := "BroadcastCarouselModel", name := "itemValue", desc := "(II)I" } : MethodName)) ∈ bc_wd := bc_mem 1765 (by rfl) (by decide +kernel)
set_option maxRecDepth 100000 in
theorem mw_1766 : (Cond.code ({ cls := "BroadcastCarouselModel", name := "itemValue", desc := "(II)I" } : MethodName) prog_11_method_70_code (3 : Nat) (Option.some ClassFile.FieldType.int)) ∈ bc_wd := bc_mem 1766 (by rfl) (by decide +kernel)
set_option maxRecDepth 100000 in
theorem mw_1768 : (Cond.methodLink "BroadcastCarouselLaw" (219 : Nat) ({ cls := "BroadcastCarouselModel", name := "frequency", desc := "(I)I" } : MethodName)) ∈ bc_wd := bc_mem 1768 (by rfl) (by decide +kernel)
set_option maxRecDepth 100000 in
theorem mw_1769 : (Cond.instanceMethod ({ cls := "BroadcastCarouselModel", name := "frequency", desc := "(I)I" } : MethodName)) ∈ bc_wd := bc_mem 1769 (by rfl) (by decide +kernel)
set_option maxRecDepth 100000 in
theorem mw_1770 : (Cond.selects "BroadcastCarouselModel" ({ cls := "BroadcastCarouselModel", name := "frequency", desc := "(I)I" } : MethodName) ({ cls := "BroadcastCarouselModel", name := "frequency", desc := "(I)I" } : MethodName)) ∈ bc_wd := bc_mem 1770 (by rfl) (by decide +kernel)
set_option maxRecDepth 100000 in
theorem mw_1771 : (Cond.code ({ cls := "BroadcastCarouselModel", name := "frequency", desc := "(I)I" } : MethodName) prog_11_method_71_code (2 : Nat) (Option.some ClassFile.FieldType.int)) ∈ bc_wd := bc_mem 1771 (by rfl) (by decide +kernel)
set_option maxRecDepth 100000 in
theorem mw_1772 : (Cond.methodLink "BroadcastCarouselLaw" (222 : Nat) ({ cls := "BroadcastCarouselModel", name := "itemsOf", desc := "(I)I" } : MethodName)) ∈ bc_wd := bc_mem 1772 (by rfl) (by decide +kernel)
set_option maxRecDepth 100000 in
theorem mw_1773 : (Cond.instanceMethod ({ cls := "BroadcastCarouselModel", name := "itemsOf", desc := "(I)I" } : MethodName)) ∈ bc_wd := bc_mem 1773 (by rfl) (by decide +kernel)
set_option maxRecDepth 100000 in
theorem mw_1774 : (Cond.selects "BroadcastCarouselModel" ({ cls := "BroadcastCarouselModel", name := "itemsOf", desc := "(I)I" } : MethodName) ({ cls := "BroadcastCarouselModel", name := "itemsOf", desc := "(I)I" } : MethodName)) ∈ bc_wd := bc_mem 1774 (by rfl) (by decide +kernel)
set_option maxRecDepth 100000 in
theorem mw_1775 : (Cond.code ({ cls := "BroadcastCarouselModel", name := "itemsOf", desc := "(I)I" } : MethodName) prog_11_method_72_code (2 : Nat) (Option.some ClassFile.FieldType.int)) ∈ bc_wd := bc_mem 1775 (by rfl) (by decide +kernel)
set_option maxRecDepth 100000 in
theorem mw_1776 : (Cond.methodLink "BroadcastCarouselLaw" (225 : Nat) ({ cls := "BroadcastCarouselModel", name := "cycle", desc := "()I" } : MethodName)) ∈ bc_wd := bc_mem 1776 (by rfl) (by decide +kernel)
set_option maxRecDepth 100000 in
theorem mw_1777 : (Cond.instanceMethod ({ cls := "BroadcastCarouselModel", name := "cycle", desc := "()I" } : MethodName)) ∈ bc_wd := bc_mem 1777 (by rfl) (by decide +kernel)
set_option maxRecDepth 100000 in
theorem mw_1778 : (Cond.selects "BroadcastCarouselModel" ({ cls := "BroadcastCarouselModel", name := "cycle", desc := "()I" } : MethodName) ({ cls := "BroadcastCarouselModel", name := "cycle", desc := "()I" } : MethodName)) ∈ bc_wd := bc_mem 1778 (by rfl) (by decide +kernel)
set_option maxRecDepth 100000 in
theorem mw_1779 : (Cond.code ({ cls := "BroadcastCarouselModel", name := "cycle", desc := "()I" } : MethodName) prog_11_method_73_code (1 : Nat) (Option.some ClassFile.FieldType.int)) ∈ bc_wd := bc_mem 1779 (by rfl) (by decide +kernel)
set_option maxRecDepth 100000 in
theorem mw_1780 : (Cond.methodLink "BroadcastCarouselLaw" (228 : Nat) ({ cls := "BroadcastCarouselModel", name := "slotAt", desc := "(I)I" } : MethodName)) ∈ bc_wd := bc_mem 1780 (by rfl) (by decide +kernel)
set_option maxRecDepth 100000 in
theorem mw_1781 : (Cond.instanceMethod ({ cls := "BroadcastCarouselModel", name := "slotAt", desc := "(I)I" } : MethodName)) ∈ bc_wd := bc_mem 1781 (by rfl) (by decide +kernel)
set_option maxRecDepth 100000 in
theorem mw_1782 : (Cond.selects "BroadcastCarouselModel" ({ cls := "BroadcastCarouselModel", name := "slotAt", desc := "(I)I" } : MethodName) ({ cls := "BroadcastCarouselModel", name := "slotAt", desc := "(I)I" } : MethodName)) ∈ bc_wd := bc_mem 1782 (by rfl) (by decide +kernel)
set_option maxRecDepth 100000 in
theorem mw_1783 : (Cond.code ({ cls := "BroadcastCarouselModel", name := "slotAt", desc := "(I)I" } : MethodName) prog_11_method_74_code (2 : Nat) (Option.some ClassFile.FieldType.int)) ∈ bc_wd := bc_mem 1783 (by rfl) (by decide +kernel)
set_option maxRecDepth 100000 in
theorem mw_1785 : (Cond.methodLink "BroadcastCarouselLaw" (231 : Nat) ({ cls := "BroadcastCarouselModel", name := "occurrences", desc := "(I)I" } : MethodName)) ∈ bc_wd := bc_mem 1785 (by rfl) (by decide +kernel)
set_option maxRecDepth 100000 in
theorem mw_1786 : (Cond.instanceMethod ({ cls := "BroadcastCarouselModel", name := "occurrences", desc := "(I)I" } : MethodName)) ∈ bc_wd := bc_mem 1786 (by rfl) (by decide +kernel)
set_option maxRecDepth 100000 in
theorem mw_1787 : (Cond.selects "BroadcastCarouselModel" ({ cls := "BroadcastCarouselModel", name := "occurrences", desc := "(I)I" } : MethodName) ({ cls := "BroadcastCarouselModel", name := "occurrences", desc := "(I)I" } : MethodName)) ∈ bc_wd := bc_mem 1787 (by rfl) (by decide +kernel)
set_option maxRecDepth 100000 in
theorem mw_1788 : (Cond.code ({ cls := "BroadcastCarouselModel", name := "occurrences", desc := "(I)I" } : MethodName) prog_11_method_75_code (2 : Nat) (Option.some ClassFile.FieldType.int)) ∈ bc_wd := bc_mem 1788 (by rfl) (by decide +kernel)
set_option maxRecDepth 100000 in
theorem mw_1793 : (Cond.methodLink "BroadcastCarouselLaw" (234 : Nat) ({ cls := "BroadcastCarouselModel", name := "emptySlots", desc := "()I" } : MethodName)) ∈ bc_wd := bc_mem 1793 (by rfl) (by decide +kernel)
set_option maxRecDepth 100000 in
theorem mw_1794 : (Cond.instanceMethod ({ cls := "BroadcastCarouselModel", name := "emptySlots", desc := "()I" } : MethodName)) ∈ bc_wd := bc_mem 1794 (by rfl) (by decide +kernel)
set_option maxRecDepth 100000 in
theorem mw_1795 : (Cond.selects "BroadcastCarouselModel" ({ cls := "BroadcastCarouselModel", name := "emptySlots", desc := "()I" } : MethodName) ({ cls := "BroadcastCarouselModel", name := "emptySlots", desc := "()I" } : MethodName)) ∈ bc_wd := bc_mem 1795 (by rfl) (by decide +kernel)
set_option maxRecDepth 100000 in
theorem mw_1796 : (Cond.code ({ cls := "BroadcastCarouselModel", name := "emptySlots", desc := "()I" } : MethodName) prog_11_method_76_code (1 : Nat) (Option.some ClassFile.FieldType.int)) ∈ bc_wd := bc_mem 1796 (by rfl) (by decide +kernel)
set_option maxRecDepth 100000 in
theorem mw_1797 : (Cond.methodLink "BroadcastCarouselLaw" (237 : Nat) ({ cls := "BroadcastCarouselModel", name := "gap", desc := "(I)I" } : MethodName)) ∈ bc_wd := bc_mem 1797 (by rfl) (by decide +kernel)
set_option maxRecDepth 100000 in
theorem mw_1798 : (Cond.instanceMethod ({ cls := "BroadcastCarouselModel", name := "gap", desc := "(I)I" } : MethodName)) ∈ bc_wd := bc_mem 1798 (by rfl) (by decide +kernel)
set_option maxRecDepth 100000 in
theorem mw_1799 : (Cond.selects "BroadcastCarouselModel" ({ cls := "BroadcastCarouselModel", name := "gap", desc := "(I)I" } : MethodName) ({ cls := "BroadcastCarouselModel", name := "gap", desc := "(I)I" } : MethodName)) ∈ bc_wd := bc_mem 1799 (by rfl) (by decide +kernel)
set_option maxRecDepth 100000 in
theorem mw_1800 : (Cond.code ({ cls := "BroadcastCarouselModel", name := "gap", desc := "(I)I" } : MethodName) prog_11_method_77_code (2 : Nat) (Option.some ClassFile.FieldType.int)) ∈ bc_wd := bc_mem 1800 (by rfl) (by decide +kernel)
set_option maxRecDepth 100000 in
theorem mw_1801 : (Cond.methodLink "BroadcastCarouselLaw" (240 : Nat) ({ cls := "BroadcastCarouselModel", name := "violations", desc := "()I" } : MethodName)) ∈ bc_wd := bc_mem 1801 (by rfl) (by decide +kernel)
set_option maxRecDepth 100000 in
theorem mw_1802 : (Cond.instanceMethod ({ cls := "BroadcastCarouselModel", name := "violations", desc := "()I" } : MethodName)) ∈ bc_wd := bc_mem 1802 (by rfl) (by decide +kernel)
set_option maxRecDepth 100000 in
theorem mw_1803 : (Cond.selects "BroadcastCarouselModel" ({ cls := "BroadcastCarouselModel", name := "violations", desc := "()I" } : MethodName) ({ cls := "BroadcastCarouselModel", name := "violations", desc := "()I" } : MethodName)) ∈ bc_wd := bc_mem 1803 (by rfl) (by decide +kernel)
set_option maxRecDepth 100000 in
theorem mw_1804 : (Cond.code ({ cls := "BroadcastCarouselModel", name := "violations", desc := "()I" } : MethodName) prog_11_method_78_code (1 : Nat) (Option.some ClassFile.FieldType.int)) ∈ bc_wd := bc_mem 1804 (by rfl) (by decide +kernel)
set_option maxRecDepth 100000 in
theorem mw_1805 : (Cond.methodLink "BroadcastCarouselLaw" (243 : Nat) ({ cls := "BroadcastCarouselModel", name := "nextTime", desc := "(II)I" } : MethodName)) ∈ bc_wd := bc_mem 1805 (by rfl) (by decide +kernel)
set_option maxRecDepth 100000 in
theorem mw_1806 : (Cond.instanceMethod ({ cls := "BroadcastCarouselModel", name := "nextTime", desc := "(II)I" } : MethodName)) ∈ bc_wd := bc_mem 1806 (by rfl) (by decide +kernel)
set_option maxRecDepth 100000 in
theorem mw_1807 : (Cond.selects "BroadcastCarouselModel" ({ cls := "BroadcastCarouselModel", name := "nextTime", desc := "(II)I" } : MethodName) ({ cls := "BroadcastCarouselModel", name := "nextTime", desc := "(II)I" } : MethodName)) ∈ bc_wd := bc_mem 1807 (by rfl) (by decide +kernel)
set_option maxRecDepth 100000 in
theorem mw_1808 : (Cond.code ({ cls := "BroadcastCarouselModel", name := "nextTime", desc := "(II)I" } : MethodName) prog_11_method_79_code (3 : Nat) (Option.some ClassFile.FieldType.int)) ∈ bc_wd := bc_mem 1808 (by rfl) (by decide +kernel)
set_option maxRecDepth 100000 in
theorem mw_1809 : (Cond.methodLink "BroadcastCarouselLaw" (247 : Nat) ({ cls := "BroadcastCarouselModel", name := "share", desc := "(I)D" } : MethodName)) ∈ bc_wd := bc_mem 1809 (by rfl) (by decide +kernel)
set_option maxRecDepth 100000 in
theorem mw_1810 : (Cond.instanceMethod ({ cls := "BroadcastCarouselModel", name := "share", desc := "(I)D" } : MethodName)) ∈ bc_wd := bc_mem 1810 (by rfl) (by decide +kernel)
set_option maxRecDepth 100000 in
theorem mw_1811 : (Cond.selects "BroadcastCarouselModel" ({ cls := "BroadcastCarouselModel", name := "share", desc := "(I)D" } : MethodName) ({ cls := "BroadcastCarouselModel", name := "share", desc := "(I)D" } : MethodName)) ∈ bc_wd := bc_mem 1811 (by rfl) (by decide +kernel)
set_option maxRecDepth 100000 in
theorem mw_1812 : (Cond.code ({ cls := "BroadcastCarouselModel", name := "share", desc := "(I)D" } : MethodName) prog_11_method_80_code (2 : Nat) (Option.some ClassFile.FieldType.double)) ∈ bc_wd := bc_mem 1812 (by rfl) (by decide +kernel)
set_option maxRecDepth 100000 in
theorem mw_1813 : (Cond.methodLink "BroadcastCarouselLaw" (250 : Nat) ({ cls := "BroadcastCarouselModel", name := "accessTime", desc := "(II)I" } : MethodName)) ∈ bc_wd := bc_mem 1813 (by rfl) (by decide +kernel)
set_option maxRecDepth 100000 in
theorem mw_1814 : (Cond.instanceMethod ({ cls := "BroadcastCarouselModel", name := "accessTime", desc := "(II)I" } : MethodName)) ∈ bc_wd := bc_mem 1814 (by rfl) (by decide +kernel)
set_option maxRecDepth 100000 in
theorem mw_1815 : (Cond.selects "BroadcastCarouselModel" ({ cls := "BroadcastCarouselModel", name := "accessTime", desc := "(II)I" } : MethodName) ({ cls := "BroadcastCarouselModel", name := "accessTime", desc := "(II)I" } : MethodName)) ∈ bc_wd := bc_mem 1815 (by rfl) (by decide +kernel)
set_option maxRecDepth 100000 in
theorem mw_1816 : (Cond.code ({ cls := "BroadcastCarouselModel", name := "accessTime", desc := "(II)I" } : MethodName) prog_11_method_81_code (3 : Nat) (Option.some ClassFile.FieldType.int)) ∈ bc_wd := bc_mem 1816 (by rfl) (by decide +kernel)
set_option maxRecDepth 100000 in
theorem mw_1817 : (Cond.methodLink "BroadcastCarouselLaw" (253 : Nat) ({ cls := "BroadcastCarouselModel", name := "tuningTime", desc := "(II)I" } : MethodName)) ∈ bc_wd := bc_mem 1817 (by rfl) (by decide +kernel)
set_option maxRecDepth 100000 in
theorem mw_1818 : (Cond.instanceMethod ({ cls := "BroadcastCarouselModel", name := "tuningTime", desc := "(II)I" } : MethodName)) ∈ bc_wd := bc_mem 1818 (by rfl) (by decide +kernel)
set_option maxRecDepth 100000 in
theorem mw_1819 : (Cond.selects "BroadcastCarouselModel" ({ cls := "BroadcastCarouselModel", name := "tuningTime", desc := "(II)I" } : MethodName) ({ cls := "BroadcastCarouselModel", name := "tuningTime", desc := "(II)I" } : MethodName)) ∈ bc_wd := bc_mem 1819 (by rfl) (by decide +kernel)
set_option maxRecDepth 100000 in
theorem mw_1820 : (Cond.code ({ cls := "BroadcastCarouselModel", name := "tuningTime", desc := "(II)I" } : MethodName) prog_11_method_82_code (3 : Nat) (Option.some ClassFile.FieldType.int)) ∈ bc_wd := bc_mem 1820 (by rfl) (by decide +kernel)
set_option maxRecDepth 100000 in
theorem mw_1821 : (Cond.methodLink "BroadcastCarouselLaw" (256 : Nat) ({ cls := "BroadcastCarouselModel", name := "worstAccess", desc := "(I)I" } : MethodName)) ∈ bc_wd := bc_mem 1821 (by rfl) (by decide +kernel)
set_option maxRecDepth 100000 in
theorem mw_1822 : (Cond.instanceMethod ({ cls := "BroadcastCarouselModel", name := "worstAccess", desc := "(I)I" } : MethodName)) ∈ bc_wd := bc_mem 1822 (by rfl) (by decide +kernel)
set_option maxRecDepth 100000 in
theorem mw_1823 : (Cond.selects "BroadcastCarouselModel" ({ cls := "BroadcastCarouselModel", name := "worstAccess", desc := "(I)I" } : MethodName) ({ cls := "BroadcastCarouselModel", name := "worstAccess", desc := "(I)I" } : MethodName)) ∈ bc_wd := bc_mem 1823 (by rfl) (by decide +kernel)
set_option maxRecDepth 100000 in
theorem mw_1824 : (Cond.code ({ cls := "BroadcastCarouselModel", name := "worstAccess", desc := "(I)I" } : MethodName) prog_11_method_83_code (4 : Nat) (Option.some ClassFile.FieldType.int)) ∈ bc_wd := bc_mem 1824 (by rfl) (by decide +kernel)
set_option maxRecDepth 100000 in
theorem mw_1825 : (Cond.methodLink "BroadcastCarouselLaw" (259 : Nat) ({ cls := "BroadcastCarouselModel", name := "weight", desc := "(I)J" } : MethodName)) ∈ bc_wd := bc_mem 1825 (by rfl) (by decide +kernel)
set_option maxRecDepth 100000 in
theorem mw_1826 : (Cond.instanceMethod ({ cls := "BroadcastCarouselModel", name := "weight", desc := "(I)J" } : MethodName)) ∈ bc_wd := bc_mem 1826 (by rfl) (by decide +kernel)
set_option maxRecDepth 100000 in
theorem mw_1827 : (Cond.selects "BroadcastCarouselModel" ({ cls := "BroadcastCarouselModel", name := "weight", desc := "(I)J" } : MethodName) ({ cls := "BroadcastCarouselModel", name := "weight", desc := "(I)J" } : MethodName)) ∈ bc_wd := bc_mem 1827 (by rfl) (by decide +kernel)
set_option maxRecDepth 100000 in
theorem mw_1828 : (Cond.code ({ cls := "BroadcastCarouselModel", name := "weight", desc := "(I)J" } : MethodName) prog_11_method_84_code (2 : Nat) (Option.some ClassFile.FieldType.long)) ∈ bc_wd := bc_mem 1828 (by rfl) (by decide +kernel)
set_option maxRecDepth 100000 in
theorem mw_1829 : (Cond.methodLink "BroadcastCarouselLaw" (262 : Nat) ({ cls := "BroadcastCarouselModel", name := "meanAccess", desc := "(I)D" } : MethodName)) ∈ bc_wd := bc_mem 1829 (by rfl) (by decide +kernel)
set_option maxRecDepth 100000 in
theorem mw_1830 : (Cond.instanceMethod ({ cls := "BroadcastCarouselModel", name := "meanAccess", desc := "(I)D" } : MethodName)) ∈ bc_wd := bc_mem 1830 (by rfl) (by decide +kernel)
set_option maxRecDepth 100000 in
theorem mw_1831 : (Cond.selects "BroadcastCarouselModel" ({ cls := "BroadcastCarouselModel", name := "meanAccess", desc := "(I)D" } : MethodName) ({ cls := "BroadcastCarouselModel", name := "meanAccess", desc := "(I)D" } : MethodName)) ∈ bc_wd := bc_mem 1831 (by rfl) (by decide +kernel)
set_option maxRecDepth 100000 in
theorem mw_1832 : (Cond.code ({ cls := "BroadcastCarouselModel", name := "meanAccess", desc := "(I)D" } : MethodName) prog_11_method_85_code (5 : Nat) (Option.some ClassFile.FieldType.double)) ∈ bc_wd := bc_mem 1832 (by rfl) (by decide +kernel)
set_option maxRecDepth 100000 in
theorem mw_1833 : (Cond.methodLink "BroadcastCarouselLaw" (265 : Nat) ({ cls := "BroadcastCarouselModel", name := "bestSegments", desc := "(I)I" } : MethodName)) ∈ bc_wd := bc_mem 1833 (by rfl) (by decide +kernel)
set_option maxRecDepth 100000 in
theorem mw_1834 : (Cond.instanceMethod ({ cls := "BroadcastCarouselModel", name := "bestSegments", desc := "(I)I" } : MethodName)) ∈ bc_wd := bc_mem 1834 (by rfl) (by decide +kernel)
set_option maxRecDepth 100000 in
theorem mw_1835 : (Cond.selects "BroadcastCarouselModel" ({ cls := "BroadcastCarouselModel", name := "bestSegments", desc := "(I)I" } : MethodName) ({ cls := "BroadcastCarouselModel", name := "bestSegments", desc := "(I)I" } : MethodName)) ∈ bc_wd := bc_mem 1835 (by rfl) (by decide +kernel)
set_option maxRecDepth 100000 in
theorem mw_1836 : (Cond.code ({ cls := "BroadcastCarouselModel", name := "bestSegments", desc := "(I)I" } : MethodName) prog_11_method_86_code (11 : Nat) (Option.some ClassFile.FieldType.int)) ∈ bc_wd := bc_mem 1836 (by rfl) (by decide +kernel)
set_option maxRecDepth 100000 in
theorem mw_1837 : (Cond.methodLink "BroadcastCarouselLaw" (268 : Nat) ({ cls := "BroadcastCarouselModel", name := "worstTime", desc := "(I)I" } : MethodName)) ∈ bc_wd := bc_mem 1837 (by rfl) (by decide +kernel)
set_option maxRecDepth 100000 in
theorem mw_1838 : (Cond.instanceMethod ({ cls := "BroadcastCarouselModel", name := "worstTime", desc := "(I)I" } : MethodName)) ∈ bc_wd := bc_mem 1838 (by rfl) (by decide +kernel)
set_option maxRecDepth 100000 in
theorem mw_1839 : (Cond.selects "BroadcastCarouselModel" ({ cls := "BroadcastCarouselModel", name := "worstTime", desc := "(I)I" } : MethodName) ({ cls := "BroadcastCarouselModel", name := "worstTime", desc := "(I)I" } : MethodName)) ∈ bc_wd := bc_mem 1839 (by rfl) (by decide +kernel)
set_option maxRecDepth 100000 in
theorem mw_1840 : (Cond.code ({ cls := "BroadcastCarouselModel", name := "worstTime", desc := "(I)I" } : MethodName) prog_11_method_88_code (4 : Nat) (Option.some ClassFile.FieldType.int)) ∈ bc_wd := bc_mem 1840 (by rfl) (by decide +kernel)
set_option maxRecDepth 100000 in
theorem mw_1845 : (Cond.methodLink "BroadcastCarouselLaw" (271 : Nat) ({ cls := "BroadcastCarouselModel", name := "leastWorth", desc := "()I" } : MethodName)) ∈ bc_wd := bc_mem 1845 (by rfl) (by decide +kernel)
set_option maxRecDepth 100000 in
theorem mw_1846 : (Cond.instanceMethod ({ cls := "BroadcastCarouselModel", name := "leastWorth", desc := "()I" } : MethodName)) ∈ bc_wd := bc_mem 1846 (by rfl) (by decide +kernel)
set_option maxRecDepth 100000 in
theorem mw_1847 : (Cond.selects "BroadcastCarouselModel" ({ cls := "BroadcastCarouselModel", name := "leastWorth", desc := "()I" } : MethodName) ({ cls := "BroadcastCarouselModel", name := "leastWorth", desc := "()I" } : MethodName)) ∈ bc_wd := bc_mem 1847 (by rfl) (by decide +kernel)
set_option maxRecDepth 100000 in
theorem mw_1848 : (Cond.code ({ cls := "BroadcastCarouselModel", name := "leastWorth", desc := "()I" } : MethodName) prog_11_method_89_code (3 : Nat) (Option.some ClassFile.FieldType.int)) ∈ bc_wd := bc_mem 1848 (by rfl) (by decide +kernel)
set_option maxRecDepth 100000 in
theorem mw_1849 : (Cond.methodLink "BroadcastCarouselLaw" (274 : Nat) ({ cls := "BroadcastCarouselModel", name := "itemRank", desc := "(I)I" } : MethodName)) ∈ bc_wd := bc_mem 1849 (by rfl) (by decide +kernel)
set_option maxRecDepth 100000 in
theorem mw_1850 : (Cond.instanceMethod ({ cls := "BroadcastCarouselModel", name := "itemRank", desc := "(I)I" } : MethodName)) ∈ bc_wd := bc_mem 1850 (by rfl) (by decide +kernel)
set_option maxRecDepth 100000 in
theorem mw_1851 : (Cond.selects "BroadcastCarouselModel" ({ cls := "BroadcastCarouselModel", name := "itemRank", desc := "(I)I" } : MethodName) ({ cls := "BroadcastCarouselModel", name := "itemRank", desc := "(I)I" } : MethodName)) ∈ bc_wd := bc_mem 1851 (by rfl) (by decide +kernel)
set_option maxRecDepth 100000 in
theorem mw_1852 : (Cond.code ({ cls := "BroadcastCarouselModel", name := "itemRank", desc := "(I)I" } : MethodName) prog_11_method_90_code (3 : Nat) (Option.some ClassFile.FieldType.int)) ∈ bc_wd := bc_mem 1852 (by rfl) (by decide +kernel)
set_option maxRecDepth 100000 in
theorem mw_1853 : (Cond.methodLink "BroadcastCarouselLaw" (277 : Nat) ({ cls := "BroadcastCarouselModel", name := "diskRank", desc := "(I)I" } : MethodName)) ∈ bc_wd := bc_mem 1853 (by rfl) (by decide +kernel)
set_option maxRecDepth 100000 in
theorem mw_1854 : (Cond.instanceMethod ({ cls := "BroadcastCarouselModel", name := "diskRank", desc := "(I)I" } : MethodName)) ∈ bc_wd := bc_mem 1854 (by rfl) (by decide +kernel)
set_option maxRecDepth 100000 in
theorem mw_1855 : (Cond.selects "BroadcastCarouselModel" ({ cls := "BroadcastCarouselModel", name := "diskRank", desc := "(I)I" } : MethodName) ({ cls := "BroadcastCarouselModel", name := "diskRank", desc := "(I)I" } : MethodName)) ∈ bc_wd := bc_mem 1855 (by rfl) (by decide +kernel)
set_option maxRecDepth 100000 in
theorem mw_1856 : (Cond.code ({ cls := "BroadcastCarouselModel", name := "diskRank", desc := "(I)I" } : MethodName) prog_11_method_91_code (3 : Nat) (Option.some ClassFile.FieldType.int)) ∈ bc_wd := bc_mem 1856 (by rfl) (by decide +kernel)
set_option maxRecDepth 100000 in
theorem mw_1857 : (Cond.methodLink "BroadcastCarouselLaw" (280 : Nat) ({ cls := "BroadcastCarouselModel", name := "tierSize", desc := "(II)I" } : MethodName)) ∈ bc_wd := bc_mem 1857 (by rfl) (by decide +kernel)
set_option maxRecDepth 100000 in
theorem mw_1858 : (Cond.instanceMethod ({ cls := "BroadcastCarouselModel", name := "tierSize", desc := "(II)I" } : MethodName)) ∈ bc_wd := bc_mem 1858 (by rfl) (by decide +kernel)
set_option maxRecDepth 100000 in
theorem mw_1859 : (Cond.selects "BroadcastCarouselModel" ({ cls := "BroadcastCarouselModel", name := "tierSize", desc := "(II)I" } : MethodName) ({ cls := "BroadcastCarouselModel", name := "tierSize", desc := "(II)I" } : MethodName)) ∈ bc_wd := bc_mem 1859 (by rfl) (by decide +kernel)
set_option maxRecDepth 100000 in
theorem mw_1860 : (Cond.code ({ cls := "BroadcastCarouselModel", name := "tierSize", desc := "(II)I" } : MethodName) prog_11_method_92_code (3 : Nat) (Option.some ClassFile.FieldType.int)) ∈ bc_wd := bc_mem 1860 (by rfl) (by decide +kernel)
set_option maxRecDepth 100000 in
theorem mw_1861 : (Cond.methodLink "BroadcastCarouselLaw" (283 : Nat) ({ cls := "BroadcastCarouselModel", name := "tierWeight", desc := "(I)J" } : MethodName)) ∈ bc_wd := bc_mem 1861 (by rfl) (by decide +kernel)
set_option maxRecDepth 100000 in
theorem mw_1862 : (Cond.instanceMethod ({ cls := "BroadcastCarouselModel", name := "tierWeight", desc := "(I)J" } : MethodName)) ∈ bc_wd := bc_mem 1862 (by rfl) (by decide +kernel)
set_option maxRecDepth 100000 in
theorem mw_1863 : (Cond.selects "BroadcastCarouselModel" ({ cls := "BroadcastCarouselModel", name := "tierWeight", desc := "(I)J" } : MethodName) ({ cls := "BroadcastCarouselModel", name := "tierWeight", desc := "(I)J" } : MethodName)) ∈ bc_wd := bc_mem 1863 (by rfl) (by decide +kernel)
set_option maxRecDepth 100000 in
theorem mw_1864 : (Cond.code ({ cls := "BroadcastCarouselModel", name := "tierWeight", desc := "(I)J" } : MethodName) prog_11_method_93_code (2 : Nat) (Option.some ClassFile.FieldType.long)) ∈ bc_wd := bc_mem 1864 (by rfl) (by decide +kernel)
set_option maxRecDepth 100000 in
theorem mw_1866 : (Cond.methodLink "BroadcastCarouselLaw" (286 : Nat) ({ cls := "BroadcastCarouselModel", name := "afterRepair", desc := "()I" } : MethodName)) ∈ bc_wd := bc_mem 1866 (by rfl) (by decide +kernel)
set_option maxRecDepth 100000 in
theorem mw_1867 : (Cond.instanceMethod ({ cls := "BroadcastCarouselModel", name := "afterRepair", desc := "()I" } : MethodName)) ∈ bc_wd := bc_mem 1867 (by rfl) (by decide +kernel)
set_option maxRecDepth 100000 in
theorem mw_1868 : (Cond.selects "BroadcastCarouselModel" ({ cls := "BroadcastCarouselModel", name := "afterRepair", desc := "()I" } : MethodName) ({ cls := "BroadcastCarouselModel", name := "afterRepair", desc := "()I" } : MethodName)) ∈ bc_wd := bc_mem 1868 (by rfl) (by decide +kernel)
set_option maxRecDepth 100000 in
theorem mw_1869 : (Cond.code ({ cls := "BroadcastCarouselModel", name := "afterRepair", desc := "()I" } : MethodName) prog_11_method_94_code (3 : Nat) (Option.some ClassFile.FieldType.int)) ∈ bc_wd := bc_mem 1869 (by rfl) (by decide +kernel)
set_option maxRecDepth 100000 in
theorem mw_1870 : (Cond.methodLink "BroadcastCarouselLaw" (289 : Nat) ({ cls := "BroadcastCarouselModel", name := "bestDisk", desc := "(I)I" } : MethodName)) ∈ bc_wd := bc_mem 1870 (by rfl) (by decide +kernel)
set_option maxRecDepth 100000 in
theorem mw_1871 : (Cond.instanceMethod ({ cls := "BroadcastCarouselModel", name := "bestDisk", desc := "(I)I" } : MethodName)) ∈ bc_wd := bc_mem 1871 (by rfl) (by decide +kernel)
set_option maxRecDepth 100000 in
theorem mw_1872 : (Cond.selects "BroadcastCarouselModel" ({ cls := "BroadcastCarouselModel", name := "bestDisk", desc := "(I)I" } : MethodName) ({ cls := "BroadcastCarouselModel", name := "bestDisk", desc := "(I)I" } : MethodName)) ∈ bc_wd := bc_mem 1872 (by rfl) (by decide +kernel)
set_option maxRecDepth 100000 in
theorem mw_1873 : (Cond.code ({ cls := "BroadcastCarouselModel", name := "bestDisk", desc := "(I)I" } : MethodName) prog_11_method_95_code (7 : Nat) (Option.some ClassFile.FieldType.int)) ∈ bc_wd := bc_mem 1873 (by rfl) (by decide +kernel)
set_option maxRecDepth 100000 in
theorem mw_1874 : (Cond.methodLink "BroadcastCarouselLaw" (292 : Nat) ({ cls := "BroadcastCarouselModel", name := "clientCount", desc := "()I" } : MethodName)) ∈ bc_wd := bc_mem 1874 (by rfl) (by decide +kernel)
set_option maxRecDepth 100000 in
theorem mw_1875 : (Cond.instanceMethod ({ cls := "BroadcastCarouselModel", name := "clientCount", desc := "()I" } : MethodName)) ∈ bc_wd := bc_mem 1875 (by rfl) (by decide +kernel)
set_option maxRecDepth 100000 in
theorem mw_1876 : (Cond.selects "BroadcastCarouselModel" ({ cls := "BroadcastCarouselModel", name := "clientCount", desc := "()I" } : MethodName) ({ cls := "BroadcastCarouselModel", name := "clientCount", desc := "()I" } : MethodName)) ∈ bc_wd := bc_mem 1876 (by rfl) (by decide +kernel)
set_option maxRecDepth 100000 in
theorem mw_1877 : (Cond.code ({ cls := "BroadcastCarouselModel", name := "clientCount", desc := "()I" } : MethodName) prog_11_method_96_code (1 : Nat) (Option.some ClassFile.FieldType.int)) ∈ bc_wd := bc_mem 1877 (by rfl) (by decide +kernel)
set_option maxRecDepth 100000 in
theorem mw_1878 : (Cond.methodLink "BroadcastCarouselLaw" (295 : Nat) ({ cls := "BroadcastCarouselModel", name := "clientValue", desc := "(II)I" } : MethodName)) ∈ bc_wd := bc_mem 1878 (by rfl) (by decide +kernel)
set_option maxRecDepth 100000 in
theorem mw_1879 : (Cond.instanceMethod ({ cls := "BroadcastCarouselModel", name := "clientValue", desc := "(II)I" } : MethodName)) ∈ bc_wd := bc_mem 1879 (by rfl) (by decide +kernel)
set_option maxRecDepth 100000 in
theorem mw_1880 : (Cond.selects "BroadcastCarouselModel" ({ cls := "BroadcastCarouselModel", name := "clientValue", desc := "(II)I" } : MethodName) ({ cls := "BroadcastCarouselModel", name := "clientValue", desc := "(II)I" } : MethodName)) ∈ bc_wd := bc_mem 1880 (by rfl) (by decide +kernel)
set_option maxRecDepth 100000 in
theorem mw_1881 : (Cond.code ({ cls := "BroadcastCarouselModel", name := "clientValue", desc := "(II)I" } : MethodName) prog_11_method_97_code (3 : Nat) (Option.some ClassFile.FieldType.int)) ∈ bc_wd := bc_mem 1881 (by rfl) (by decide +kernel)
set_option maxRecDepth 100000 in
theorem mw_1883 : (Cond.methodLink "BroadcastCarouselLaw" (298 : Nat) ({ cls := "BroadcastCarouselModel", name := "cache", desc := "(I)I" } : MethodName)) ∈ bc_wd := bc_mem 1883 (by rfl) (by decide +kernel)
set_option maxRecDepth 100000 in
theorem mw_1884 : (Cond.instanceMethod ({ cls := "BroadcastCarouselModel", name := "cache", desc := "(I)I" } : MethodName)) ∈ bc_wd := bc_mem 1884 (by rfl) (by decide +kernel)
set_option maxRecDepth 100000 in
theorem mw_1885 : (Cond.selects "BroadcastCarouselModel" ({ cls := "BroadcastCarouselModel", name := "cache", desc := "(I)I" } : MethodName) ({ cls := "BroadcastCarouselModel", name := "cache", desc := "(I)I" } : MethodName)) ∈ bc_wd := bc_mem 1885 (by rfl) (by decide +kernel)
set_option maxRecDepth 100000 in
theorem mw_1886 : (Cond.code ({ cls := "BroadcastCarouselModel", name := "cache", desc := "(I)I" } : MethodName) prog_11_method_98_code (2 : Nat) (Option.some ClassFile.FieldType.int)) ∈ bc_wd := bc_mem 1886 (by rfl) (by decide +kernel)
set_option maxRecDepth 100000 in
theorem mw_1887 : (Cond.methodLink "BroadcastCarouselLaw" (301 : Nat) ({ cls := "BroadcastCarouselModel", name := "requests", desc := "(II)I" } : MethodName)) ∈ bc_wd := bc_mem 1887 (by rfl) (by decide +kernel)
set_option maxRecDepth 100000 in
theorem mw_1888 : (Cond.instanceMethod ({ cls := "BroadcastCarouselModel", name := "requests", desc := "(II)I" } : MethodName)) ∈ bc_wd := bc_mem 1888 (by rfl) (by decide +kernel)
set_option maxRecDepth 100000 in
theorem mw_1889 : (Cond.selects "BroadcastCarouselModel" ({ cls := "BroadcastCarouselModel", name := "requests", desc := "(II)I" } : MethodName) ({ cls := "BroadcastCarouselModel", name := "requests", desc := "(II)I" } : MethodName)) ∈ bc_wd := bc_mem 1889 (by rfl) (by decide +kernel)
set_option maxRecDepth 100000 in
theorem mw_1890 : (Cond.code ({ cls := "BroadcastCarouselModel", name := "requests", desc := "(II)I" } : MethodName) prog_11_method_99_code (3 : Nat) (Option.some ClassFile.FieldType.int)) ∈ bc_wd := bc_mem 1890 (by rfl) (by decide +kernel)
set_option maxRecDepth 100000 in
theorem mw_1891 : (Cond.methodLink "BroadcastCarouselLaw" (304 : Nat) ({ cls := "BroadcastCarouselModel", name := "victim", desc := "(II)I" } : MethodName)) ∈ bc_wd := bc_mem 1891 (by rfl) (by decide +kernel)
set_option maxRecDepth 100000 in
theorem mw_1892 : (Cond.instanceMethod ({ cls := "BroadcastCarouselModel", name := "victim", desc := "(II)I" } : MethodName)) ∈ bc_wd := bc_mem 1892 (by rfl) (by decide +kernel)
set_option maxRecDepth 100000 in
theorem mw_1893 : (Cond.selects "BroadcastCarouselModel" ({ cls := "BroadcastCarouselModel", name := "victim", desc := "(II)I" } : MethodName) ({ cls := "BroadcastCarouselModel", name := "victim", desc := "(II)I" } : MethodName)) ∈ bc_wd := bc_mem 1893 (by rfl) (by decide +kernel)
set_option maxRecDepth 100000 in
theorem mw_1894 : (Cond.code ({ cls := "BroadcastCarouselModel", name := "victim", desc := "(II)I" } : MethodName) prog_11_method_100_code (4 : Nat) (Option.some ClassFile.FieldType.int)) ∈ bc_wd := bc_mem 1894 (by rfl) (by decide +kernel)
set_option maxRecDepth 100000 in
theorem mw_1895 : (Cond.methodLink "BroadcastCarouselLaw" (307 : Nat) ({ cls := "BroadcastCarouselModel", name := "soonest", desc := "(II)I" } : MethodName)) ∈ bc_wd := bc_mem 1895 (by rfl) (by decide +kernel)
set_option maxRecDepth 100000 in
theorem mw_1896 : (Cond.instanceMethod ({ cls := "BroadcastCarouselModel", name := "soonest", desc := "(II)I" } : MethodName)) ∈ bc_wd := bc_mem 1896 (by rfl) (by decide +kernel)
set_option maxRecDepth 100000 in
theorem mw_1897 : (Cond.selects "BroadcastCarouselModel" ({ cls := "BroadcastCarouselModel", name := "soonest", desc := "(II)I" } : MethodName) ({ cls := "BroadcastCarouselModel", name := "soonest", desc := "(II)I" } : MethodName)) ∈ bc_wd := bc_mem 1897 (by rfl) (by decide +kernel)
set_option maxRecDepth 100000 in
theorem mw_1898 : (Cond.code ({ cls := "BroadcastCarouselModel", name := "soonest", desc := "(II)I" } : MethodName) prog_11_method_103_code (3 : Nat) (Option.some ClassFile.FieldType.int)) ∈ bc_wd := bc_mem 1898 (by rfl) (by decide +kernel)
set_option maxRecDepth 100000 in
theorem mw_1907 : (Cond.methodLink "BroadcastCarouselLaw" (310 : Nat) ({ cls := "BroadcastCarouselModel", name := "hint", desc := "(I)I" } : MethodName)) ∈ bc_wd := bc_mem 1907 (by rfl) (by decide +kernel)
set_option maxRecDepth 100000 in
theorem mw_1908 : (Cond.instanceMethod ({ cls := "BroadcastCarouselModel", name := "hint", desc := "(I)I" } : MethodName)) ∈ bc_wd := bc_mem 1908 (by rfl) (by decide +kernel)
set_option maxRecDepth 100000 in
theorem mw_1909 : (Cond.selects "BroadcastCarouselModel" ({ cls := "BroadcastCarouselModel", name := "hint", desc := "(I)I" } : MethodName) ({ cls := "BroadcastCarouselModel", name := "hint", desc := "(I)I" } : MethodName)) ∈ bc_wd := bc_mem 1909 (by rfl) (by decide +kernel)
set_option maxRecDepth 100000 in
theorem mw_1910 : (Cond.code ({ cls := "BroadcastCarouselModel", name := "hint", desc := "(I)I" } : MethodName) prog_11_method_104_code (2 : Nat) (Option.some ClassFile.FieldType.int)) ∈ bc_wd := bc_mem 1910 (by rfl) (by decide +kernel)
set_option maxRecDepth 100000 in
theorem mw_1911 : (Cond.methodLink "BroadcastCarouselLaw" (313 : Nat) ({ cls := "BroadcastCarouselModel", name := "planTime", desc := "(II)I" } : MethodName)) ∈ bc_wd := bc_mem 1911 (by rfl) (by decide +kernel)
set_option maxRecDepth 100000 in
theorem mw_1912 : (Cond.instanceMethod ({ cls := "BroadcastCarouselModel", name := "planTime", desc := "(II)I" } : MethodName)) ∈ bc_wd := bc_mem 1912 (by rfl) (by decide +kernel)
set_option maxRecDepth 100000 in
theorem mw_1913 : (Cond.selects "BroadcastCarouselModel" ({ cls := "BroadcastCarouselModel", name := "planTime", desc := "(II)I" } : MethodName) ({ cls := "BroadcastCarouselModel", name := "planTime", desc := "(II)I" } : MethodName)) ∈ bc_wd := bc_mem 1913 (by rfl) (by decide +kernel)
set_option maxRecDepth 100000 in
theorem mw_1914 : (Cond.code ({ cls := "BroadcastCarouselModel", name := "planTime", desc := "(II)I" } : MethodName) prog_11_method_108_code (3 : Nat) (Option.some ClassFile.FieldType.int)) ∈ bc_wd := bc_mem 1914 (by rfl) (by decide +kernel)
set_option maxRecDepth 100000 in
theorem mw_1927 : (Cond.methodLink "BroadcastCarouselLaw" (317 : Nat) ({ cls := "BroadcastCarouselModel", name := "planItem", desc := "(III)I" } : MethodName)) ∈ bc_wd := bc_mem 1927 (by rfl) (by decide +kernel)
set_option maxRecDepth 100000 in
theorem mw_1928 : (Cond.instanceMethod ({ cls := "BroadcastCarouselModel", name := "planItem", desc := "(III)I" } : MethodName)) ∈ bc_wd := bc_mem 1928 (by rfl) (by decide +kernel)
set_option maxRecDepth 100000 in
theorem mw_1929 : (Cond.selects "BroadcastCarouselModel" ({ cls := "BroadcastCarouselModel", name := "planItem", desc := "(III)I" } : MethodName) ({ cls := "BroadcastCarouselModel", name := "planItem", desc := "(III)I" } : MethodName)) ∈ bc_wd := bc_mem 1929 (by rfl) (by decide +kernel)
set_option maxRecDepth 100000 in
theorem mw_1930 : (Cond.code ({ cls := "BroadcastCarouselModel", name := "planItem", desc := "(III)I" } : MethodName) prog_11_method_109_code (4 : Nat) (Option.some ClassFile.FieldType.int)) ∈ bc_wd := bc_mem 1930 (by rfl) (by decide +kernel)
set_option maxRecDepth 100000 in
theorem mw_680 : (Cond.classLink "BroadcastCarouselLaw" (13 : Nat) "java/lang/IllegalStateException") ∈ bc_wd := bc_mem 680 (by rfl) (by decide +kernel)
set_option maxRecDepth 100000 in
theorem mw_759 : (Cond.classLink "BroadcastCarouselLaw" (19 : Nat) "java/lang/IllegalArgumentException") ∈ bc_wd := bc_mem 759 (by rfl) (by decide +kernel)
set_option maxRecDepth 100000 in
theorem mw_1168 : (Cond.classLink "BroadcastCarouselLaw" (112 : Nat) "java/util/NoSuchElementException") ∈ bc_wd := bc_mem 1168 (by rfl) (by decide +kernel)

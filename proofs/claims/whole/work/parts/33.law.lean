theorem wt_444 : (Jvm.Cond.methodLink "BranchingStoryLaw" (118 : Nat) ({ cls := "BranchingStory", name := "clearText", desc := "()I" } : Jvm.MethodName)) ∈ lw_tbl := in_tb 444 (by decide +kernel)
theorem wt_445 : (Jvm.Cond.instanceMethod ({ cls := "BranchingStory", name := "clearText", desc := "()I" } : Jvm.MethodName)) ∈ lw_tbl := in_tb 445 (by decide +kernel)
theorem wt_446 : (Jvm.Cond.selects "BranchingStory" ({ cls := "BranchingStory", name := "clearText", desc := "()I" } : Jvm.MethodName) ({ cls := "BranchingStory", name := "clearText", desc := "()I" } : Jvm.MethodName)) ∈ lw_tbl := in_tb 446 (by decide +kernel)
theorem wt_447 : (Jvm.Cond.code ({ cls := "BranchingStory", name := "clearText", desc := "()I" } : Jvm.MethodName) prog_1_method_3_code (2 : Nat) (Option.some Jvm.ClassFile.FieldType.int)) ∈ lw_tbl := in_tb 447 (by decide +kernel)
theorem wt_448 : (Jvm.Cond.methodLink "BranchingStoryLaw" (122 : Nat) ({ cls := "BranchingStory", name := "fault", desc := "()I" } : Jvm.MethodName)) ∈ lw_tbl := in_tb 448 (by decide +kernel)
theorem wt_449 : (Jvm.Cond.instanceMethod ({ cls := "BranchingStory", name := "fault", desc := "()I" } : Jvm.MethodName)) ∈ lw_tbl := in_tb 449 (by decide +kernel)
theorem wt_450 : (Jvm.Cond.selects "BranchingStory" ({ cls := "BranchingStory", name := "fault", desc := "()I" } : Jvm.MethodName) ({ cls := "BranchingStory", name := "fault", desc := "()I" } : Jvm.MethodName)) ∈ lw_tbl := in_tb 450 (by decide +kernel)
theorem wt_451 : (Jvm.Cond.code ({ cls := "BranchingStory", name := "fault", desc := "()I" } : Jvm.MethodName) prog_1_method_4_code (1 : Nat) (Option.some Jvm.ClassFile.FieldType.int)) ∈ lw_tbl := in_tb 451 (by decide +kernel)
theorem wt_611 : (Jvm.Cond.methodLink "BranchingStoryLaw" (154 : Nat) ({ cls := "BranchingStory", name := "status", desc := "()I" } : Jvm.MethodName)) ∈ lw_tbl := in_tb 611 (by decide +kernel)
theorem wt_612 : (Jvm.Cond.instanceMethod ({ cls := "BranchingStory", name := "status", desc := "()I" } : Jvm.MethodName)) ∈ lw_tbl := in_tb 612 (by decide +kernel)
theorem wt_613 : (Jvm.Cond.selects "BranchingStory" ({ cls := "BranchingStory", name := "status", desc := "()I" } : Jvm.MethodName) ({ cls := "BranchingStory", name := "status", desc := "()I" } : Jvm.MethodName)) ∈ lw_tbl := in_tb 613 (by decide +kernel)
theorem wt_614 : (Jvm.Cond.code ({ cls := "BranchingStory", name := "status", desc := "()I" } : Jvm.MethodName) prog_1_method_14_code (1 : Nat) (Option.some Jvm.ClassFile.FieldType.int)) ∈ lw_tbl := in_tb 614 (by decide +kernel)
theorem wt_615 : (Jvm.Cond.methodLink "BranchingStoryLaw" (158 : Nat) ({ cls := "BranchingStory", name := "ending", desc := "()I" } : Jvm.MethodName)) ∈ lw_tbl := in_tb 615 (by decide +kernel)
theorem wt_616 : (Jvm.Cond.instanceMethod ({ cls := "BranchingStory", name := "ending", desc := "()I" } : Jvm.MethodName)) ∈ lw_tbl := in_tb 616 (by decide +kernel)
theorem wt_617 : (Jvm.Cond.selects "BranchingStory" ({ cls := "BranchingStory", name := "ending", desc := "()I" } : Jvm.MethodName) ({ cls := "BranchingStory", name := "ending", desc := "()I" } : Jvm.MethodName)) ∈ lw_tbl := in_tb 617 (by decide +kernel)
theorem wt_618 : (Jvm.Cond.code ({ cls := "BranchingStory", name := "ending", desc := "()I" } : Jvm.MethodName) prog_1_method_15_code (1 : Nat) (Option.some Jvm.ClassFile.FieldType.int)) ∈ lw_tbl := in_tb 618 (by decide +kernel)
theorem wt_619 : (Jvm.Cond.methodLink "BranchingStoryLaw" (162 : Nat) ({ cls := "BranchingStory", name := "node", desc := "()I" } : Jvm.MethodName)) ∈ lw_tbl := in_tb 619 (by decide +kernel)
theorem wt_620 : (Jvm.Cond.instanceMethod ({ cls := "BranchingStory", name := "node", desc := "()I" } : Jvm.MethodName)) ∈ lw_tbl := in_tb 620 (by decide +kernel)
theorem wt_621 : (Jvm.Cond.selects "BranchingStory" ({ cls := "BranchingStory", name := "node", desc := "()I" } : Jvm.MethodName) ({ cls := "BranchingStory", name := "node", desc := "()I" } : Jvm.MethodName)) ∈ lw_tbl := in_tb 621 (by decide +kernel)
theorem wt_622 : (Jvm.Cond.code ({ cls := "BranchingStory", name := "node", desc := "()I" } : Jvm.MethodName) prog_1_method_16_code (1 : Nat) (Option.some Jvm.ClassFile.FieldType.int)) ∈ lw_tbl := in_tb 622 (by decide +kernel)
theorem wt_623 : (Jvm.Cond.methodLink "BranchingStoryLaw" (166 : Nat) ({ cls := "BranchingStory", name := "hub", desc := "()I" } : Jvm.MethodName)) ∈ lw_tbl := in_tb 623 (by decide +kernel)
theorem wt_624 : (Jvm.Cond.instanceMethod ({ cls := "BranchingStory", name := "hub", desc := "()I" } : Jvm.MethodName)) ∈ lw_tbl := in_tb 624 (by decide +kernel)
theorem wt_625 : (Jvm.Cond.selects "BranchingStory" ({ cls := "BranchingStory", name := "hub", desc := "()I" } : Jvm.MethodName) ({ cls := "BranchingStory", name := "hub", desc := "()I" } : Jvm.MethodName)) ∈ lw_tbl := in_tb 625 (by decide +kernel)
theorem wt_626 : (Jvm.Cond.code ({ cls := "BranchingStory", name := "hub", desc := "()I" } : Jvm.MethodName) prog_1_method_17_code (1 : Nat) (Option.some Jvm.ClassFile.FieldType.int)) ∈ lw_tbl := in_tb 626 (by decide +kernel)
theorem wt_627 : (Jvm.Cond.methodLink "BranchingStoryLaw" (170 : Nat) ({ cls := "BranchingStory", name := "offered", desc := "()I" } : Jvm.MethodName)) ∈ lw_tbl := in_tb 627 (by decide +kernel)
theorem wt_628 : (Jvm.Cond.instanceMethod ({ cls := "BranchingStory", name := "offered", desc := "()I" } : Jvm.MethodName)) ∈ lw_tbl := in_tb 628 (by decide +kernel)
theorem wt_629 : (Jvm.Cond.selects "BranchingStory" ({ cls := "BranchingStory", name := "offered", desc := "()I" } : Jvm.MethodName) ({ cls := "BranchingStory", name := "offered", desc := "()I" } : Jvm.MethodName)) ∈ lw_tbl := in_tb 629 (by decide +kernel)
theorem wt_630 : (Jvm.Cond.code ({ cls := "BranchingStory", name := "offered", desc := "()I" } : Jvm.MethodName) prog_1_method_18_code (1 : Nat) (Option.some Jvm.ClassFile.FieldType.int)) ∈ lw_tbl := in_tb 630 (by decide +kernel)
theorem wt_637 : (Jvm.Cond.methodLink "BranchingStoryLaw" (183 : Nat) ({ cls := "BranchingStory", name := "said", desc := "()I" } : Jvm.MethodName)) ∈ lw_tbl := in_tb 637 (by decide +kernel)
theorem wt_638 : (Jvm.Cond.instanceMethod ({ cls := "BranchingStory", name := "said", desc := "()I" } : Jvm.MethodName)) ∈ lw_tbl := in_tb 638 (by decide +kernel)
theorem wt_639 : (Jvm.Cond.selects "BranchingStory" ({ cls := "BranchingStory", name := "said", desc := "()I" } : Jvm.MethodName) ({ cls := "BranchingStory", name := "said", desc := "()I" } : Jvm.MethodName)) ∈ lw_tbl := in_tb 639 (by decide +kernel)
theorem wt_640 : (Jvm.Cond.code ({ cls := "BranchingStory", name := "said", desc := "()I" } : Jvm.MethodName) prog_1_method_22_code (1 : Nat) (Option.some Jvm.ClassFile.FieldType.int)) ∈ lw_tbl := in_tb 640 (by decide +kernel)
theorem wt_1529 : (Jvm.Cond.methodLink "BranchingStoryLaw" (115 : Nat) ({ cls := "BranchingStoryModel", name := "thrown", desc := "()I" } : Jvm.MethodName)) ∈ lw_tbl := in_tb 1529 (by decide +kernel)
theorem wt_1530 : (Jvm.Cond.instanceMethod ({ cls := "BranchingStoryModel", name := "thrown", desc := "()I" } : Jvm.MethodName)) ∈ lw_tbl := in_tb 1530 (by decide +kernel)
theorem wt_1531 : (Jvm.Cond.selects "BranchingStoryModel" ({ cls := "BranchingStoryModel", name := "thrown", desc := "()I" } : Jvm.MethodName) ({ cls := "BranchingStoryModel", name := "thrown", desc := "()I" } : Jvm.MethodName)) ∈ lw_tbl := in_tb 1531 (by decide +kernel)
theorem wt_1532 : (Jvm.Cond.code ({ cls := "BranchingStoryModel", name := "thrown", desc := "()I" } : Jvm.MethodName) prog_12_method_2_code (1 : Nat) (Option.some Jvm.ClassFile.FieldType.int)) ∈ lw_tbl := in_tb 1532 (by decide +kernel)
theorem wt_1533 : (Jvm.Cond.methodLink "BranchingStoryLaw" (114 : Nat) ({ cls := "BranchingStoryModel", name := "type", desc := "(I)I" } : Jvm.MethodName)) ∈ lw_tbl := in_tb 1533 (by decide +kernel)
theorem wt_1534 : (Jvm.Cond.instanceMethod ({ cls := "BranchingStoryModel", name := "type", desc := "(I)I" } : Jvm.MethodName)) ∈ lw_tbl := in_tb 1534 (by decide +kernel)
theorem wt_1535 : (Jvm.Cond.selects "BranchingStoryModel" ({ cls := "BranchingStoryModel", name := "type", desc := "(I)I" } : Jvm.MethodName) ({ cls := "BranchingStoryModel", name := "type", desc := "(I)I" } : Jvm.MethodName)) ∈ lw_tbl := in_tb 1535 (by decide +kernel)
theorem wt_1536 : (Jvm.Cond.code ({ cls := "BranchingStoryModel", name := "type", desc := "(I)I" } : Jvm.MethodName) prog_12_method_24_code (2 : Nat) (Option.some Jvm.ClassFile.FieldType.int)) ∈ lw_tbl := in_tb 1536 (by decide +kernel)
theorem wt_1544 : (Jvm.Cond.methodLink "BranchingStoryLaw" (121 : Nat) ({ cls := "BranchingStoryModel", name := "clearText", desc := "()I" } : Jvm.MethodName)) ∈ lw_tbl := in_tb 1544 (by decide +kernel)
theorem wt_1545 : (Jvm.Cond.instanceMethod ({ cls := "BranchingStoryModel", name := "clearText", desc := "()I" } : Jvm.MethodName)) ∈ lw_tbl := in_tb 1545 (by decide +kernel)
theorem wt_1546 : (Jvm.Cond.selects "BranchingStoryModel" ({ cls := "BranchingStoryModel", name := "clearText", desc := "()I" } : Jvm.MethodName) ({ cls := "BranchingStoryModel", name := "clearText", desc := "()I" } : Jvm.MethodName)) ∈ lw_tbl := in_tb 1546 (by decide +kernel)
theorem wt_1547 : (Jvm.Cond.code ({ cls := "BranchingStoryModel", name := "clearText", desc := "()I" } : Jvm.MethodName) prog_12_method_25_code (2 : Nat) (Option.some Jvm.ClassFile.FieldType.int)) ∈ lw_tbl := in_tb 1547 (by decide +kernel)
theorem wt_1548 : (Jvm.Cond.methodLink "BranchingStoryLaw" (125 : Nat) ({ cls := "BranchingStoryModel", name := "fault", desc := "()I" } : Jvm.MethodName)) ∈ lw_tbl := in_tb 1548 (by decide +kernel)
theorem wt_1628 : (Jvm.Cond.methodLink "BranchingStoryLaw" (129 : Nat) ({ cls := "BranchingStoryModel", name := "build", desc := "()I" } : Jvm.MethodName)) ∈ lw_tbl := in_tb 1628 (by decide +kernel)
theorem wt_1629 : (Jvm.Cond.instanceMethod ({ cls := "BranchingStoryModel", name := "build", desc := "()I" } : Jvm.MethodName)) ∈ lw_tbl := in_tb 1629 (by decide +kernel)
theorem wt_1630 : (Jvm.Cond.selects "BranchingStoryModel" ({ cls := "BranchingStoryModel", name := "build", desc := "()I" } : Jvm.MethodName) ({ cls := "BranchingStoryModel", name := "build", desc := "()I" } : Jvm.MethodName)) ∈ lw_tbl := in_tb 1630 (by decide +kernel)
theorem wt_1631 : (Jvm.Cond.code ({ cls := "BranchingStoryModel", name := "build", desc := "()I" } : Jvm.MethodName) prog_12_method_27_code (2 : Nat) (Option.some Jvm.ClassFile.FieldType.int)) ∈ lw_tbl := in_tb 1631 (by decide +kernel)
theorem wt_1633 : (Jvm.Cond.methodLink "BranchingStoryLaw" (132 : Nat) ({ cls := "BranchingStoryModel", name := "count", desc := "(I)I" } : Jvm.MethodName)) ∈ lw_tbl := in_tb 1633 (by decide +kernel)
theorem wt_1634 : (Jvm.Cond.instanceMethod ({ cls := "BranchingStoryModel", name := "count", desc := "(I)I" } : Jvm.MethodName)) ∈ lw_tbl := in_tb 1634 (by decide +kernel)
theorem wt_1635 : (Jvm.Cond.selects "BranchingStoryModel" ({ cls := "BranchingStoryModel", name := "count", desc := "(I)I" } : Jvm.MethodName) ({ cls := "BranchingStoryModel", name := "count", desc := "(I)I" } : Jvm.MethodName)) ∈ lw_tbl := in_tb 1635 (by decide +kernel)
theorem wt_1636 : (Jvm.Cond.code ({ cls := "BranchingStoryModel", name := "count", desc := "(I)I" } : Jvm.MethodName) prog_12_method_28_code (2 : Nat) (Option.some Jvm.ClassFile.FieldType.int)) ∈ lw_tbl := in_tb 1636 (by decide +kernel)
theorem wt_1637 : (Jvm.Cond.methodLink "BranchingStoryLaw" (135 : Nat) ({ cls := "BranchingStoryModel", name := "name", desc := "(I)I" } : Jvm.MethodName)) ∈ lw_tbl := in_tb 1637 (by decide +kernel)
theorem wt_1638 : (Jvm.Cond.instanceMethod ({ cls := "BranchingStoryModel", name := "name", desc := "(I)I" } : Jvm.MethodName)) ∈ lw_tbl := in_tb 1638 (by decide +kernel)
theorem wt_1639 : (Jvm.Cond.selects "BranchingStoryModel" ({ cls := "BranchingStoryModel", name := "name", desc := "(I)I" } : Jvm.MethodName) ({ cls := "BranchingStoryModel", name := "name", desc := "(I)I" } : Jvm.MethodName)) ∈ lw_tbl := in_tb 1639 (by decide +kernel)
theorem wt_1640 : (Jvm.Cond.code ({ cls := "BranchingStoryModel", name := "name", desc := "(I)I" } : Jvm.MethodName) prog_12_method_31_code (2 : Nat) (Option.some Jvm.ClassFile.FieldType.int)) ∈ lw_tbl := in_tb 1640 (by decide +kernel)
theorem wt_1645 : (Jvm.Cond.methodLink "BranchingStoryLaw" (138 : Nat) ({ cls := "BranchingStoryModel", name := "isHub", desc := "(I)Z" } : Jvm.MethodName)) ∈ lw_tbl := in_tb 1645 (by decide +kernel)
theorem wt_1646 : (Jvm.Cond.instanceMethod ({ cls := "BranchingStoryModel", name := "isHub", desc := "(I)Z" } : Jvm.MethodName)) ∈ lw_tbl := in_tb 1646 (by decide +kernel)
theorem wt_1647 : (Jvm.Cond.selects "BranchingStoryModel" ({ cls := "BranchingStoryModel", name := "isHub", desc := "(I)Z" } : Jvm.MethodName) ({ cls := "BranchingStoryModel", name := "isHub", desc := "(I)Z" } : Jvm.MethodName)) ∈ lw_tbl := in_tb 1647 (by decide +kernel)
theorem wt_1648 : (Jvm.Cond.code ({ cls := "BranchingStoryModel", name := "isHub", desc := "(I)Z" } : Jvm.MethodName) prog_12_method_32_code (2 : Nat) (Option.some Jvm.ClassFile.FieldType.boolean)) ∈ lw_tbl := in_tb 1648 (by decide +kernel)
theorem wt_1649 : (Jvm.Cond.methodLink "BranchingStoryLaw" (141 : Nat) ({ cls := "BranchingStoryModel", name := "label", desc := "(I)I" } : Jvm.MethodName)) ∈ lw_tbl := in_tb 1649 (by decide +kernel)
theorem wt_1650 : (Jvm.Cond.instanceMethod ({ cls := "BranchingStoryModel", name := "label", desc := "(I)I" } : Jvm.MethodName)) ∈ lw_tbl := in_tb 1650 (by decide +kernel)
theorem wt_1651 : (Jvm.Cond.selects "BranchingStoryModel" ({ cls := "BranchingStoryModel", name := "label", desc := "(I)I" } : Jvm.MethodName) ({ cls := "BranchingStoryModel", name := "label", desc := "(I)I" } : Jvm.MethodName)) ∈ lw_tbl := in_tb 1651 (by decide +kernel)
theorem wt_1652 : (Jvm.Cond.code ({ cls := "BranchingStoryModel", name := "label", desc := "(I)I" } : Jvm.MethodName) prog_12_method_33_code (2 : Nat) (Option.some Jvm.ClassFile.FieldType.int)) ∈ lw_tbl := in_tb 1652 (by decide +kernel)
theorem wt_1657 : (Jvm.Cond.methodLink "BranchingStoryLaw" (144 : Nat) ({ cls := "BranchingStoryModel", name := "nodeOf", desc := "(I)I" } : Jvm.MethodName)) ∈ lw_tbl := in_tb 1657 (by decide +kernel)
theorem wt_1658 : (Jvm.Cond.instanceMethod ({ cls := "BranchingStoryModel", name := "nodeOf", desc := "(I)I" } : Jvm.MethodName)) ∈ lw_tbl := in_tb 1658 (by decide +kernel)
theorem wt_1659 : (Jvm.Cond.selects "BranchingStoryModel" ({ cls := "BranchingStoryModel", name := "nodeOf", desc := "(I)I" } : Jvm.MethodName) ({ cls := "BranchingStoryModel", name := "nodeOf", desc := "(I)I" } : Jvm.MethodName)) ∈ lw_tbl := in_tb 1659 (by decide +kernel)
theorem wt_1660 : (Jvm.Cond.code ({ cls := "BranchingStoryModel", name := "nodeOf", desc := "(I)I" } : Jvm.MethodName) prog_12_method_35_code (2 : Nat) (Option.some Jvm.ClassFile.FieldType.int)) ∈ lw_tbl := in_tb 1660 (by decide +kernel)
theorem wt_1665 : (Jvm.Cond.methodLink "BranchingStoryLaw" (147 : Nat) ({ cls := "BranchingStoryModel", name := "start", desc := "()I" } : Jvm.MethodName)) ∈ lw_tbl := in_tb 1665 (by decide +kernel)
theorem wt_1666 : (Jvm.Cond.instanceMethod ({ cls := "BranchingStoryModel", name := "start", desc := "()I" } : Jvm.MethodName)) ∈ lw_tbl := in_tb 1666 (by decide +kernel)
theorem wt_1667 : (Jvm.Cond.selects "BranchingStoryModel" ({ cls := "BranchingStoryModel", name := "start", desc := "()I" } : Jvm.MethodName) ({ cls := "BranchingStoryModel", name := "start", desc := "()I" } : Jvm.MethodName)) ∈ lw_tbl := in_tb 1667 (by decide +kernel)
theorem wt_1668 : (Jvm.Cond.code ({ cls := "BranchingStoryModel", name := "start", desc := "()I" } : Jvm.MethodName) prog_12_method_50_code (1 : Nat) (Option.some Jvm.ClassFile.FieldType.int)) ∈ lw_tbl := in_tb 1668 (by decide +kernel)
theorem wt_1713 : (Jvm.Cond.methodLink "BranchingStoryLaw" (150 : Nat) ({ cls := "BranchingStoryModel", name := "choose", desc := "(I)I" } : Jvm.MethodName)) ∈ lw_tbl := in_tb 1713 (by decide +kernel)
theorem wt_1714 : (Jvm.Cond.instanceMethod ({ cls := "BranchingStoryModel", name := "choose", desc := "(I)I" } : Jvm.MethodName)) ∈ lw_tbl := in_tb 1714 (by decide +kernel)
theorem wt_1715 : (Jvm.Cond.selects "BranchingStoryModel" ({ cls := "BranchingStoryModel", name := "choose", desc := "(I)I" } : Jvm.MethodName) ({ cls := "BranchingStoryModel", name := "choose", desc := "(I)I" } : Jvm.MethodName)) ∈ lw_tbl := in_tb 1715 (by decide +kernel)
theorem wt_1716 : (Jvm.Cond.code ({ cls := "BranchingStoryModel", name := "choose", desc := "(I)I" } : Jvm.MethodName) prog_12_method_51_code (4 : Nat) (Option.some Jvm.ClassFile.FieldType.int)) ∈ lw_tbl := in_tb 1716 (by decide +kernel)
theorem wt_1725 : (Jvm.Cond.methodLink "BranchingStoryLaw" (153 : Nat) ({ cls := "BranchingStoryModel", name := "back", desc := "()I" } : Jvm.MethodName)) ∈ lw_tbl := in_tb 1725 (by decide +kernel)
theorem wt_1726 : (Jvm.Cond.instanceMethod ({ cls := "BranchingStoryModel", name := "back", desc := "()I" } : Jvm.MethodName)) ∈ lw_tbl := in_tb 1726 (by decide +kernel)
theorem wt_1727 : (Jvm.Cond.selects "BranchingStoryModel" ({ cls := "BranchingStoryModel", name := "back", desc := "()I" } : Jvm.MethodName) ({ cls := "BranchingStoryModel", name := "back", desc := "()I" } : Jvm.MethodName)) ∈ lw_tbl := in_tb 1727 (by decide +kernel)
theorem wt_1728 : (Jvm.Cond.code ({ cls := "BranchingStoryModel", name := "back", desc := "()I" } : Jvm.MethodName) prog_12_method_52_code (2 : Nat) (Option.some Jvm.ClassFile.FieldType.int)) ∈ lw_tbl := in_tb 1728 (by decide +kernel)
theorem wt_1729 : (Jvm.Cond.methodLink "BranchingStoryLaw" (157 : Nat) ({ cls := "BranchingStoryModel", name := "status", desc := "()I" } : Jvm.MethodName)) ∈ lw_tbl := in_tb 1729 (by decide +kernel)
theorem wt_1730 : (Jvm.Cond.instanceMethod ({ cls := "BranchingStoryModel", name := "status", desc := "()I" } : Jvm.MethodName)) ∈ lw_tbl := in_tb 1730 (by decide +kernel)
theorem wt_1731 : (Jvm.Cond.selects "BranchingStoryModel" ({ cls := "BranchingStoryModel", name := "status", desc := "()I" } : Jvm.MethodName) ({ cls := "BranchingStoryModel", name := "status", desc := "()I" } : Jvm.MethodName)) ∈ lw_tbl := in_tb 1731 (by decide +kernel)
theorem wt_1732 : (Jvm.Cond.code ({ cls := "BranchingStoryModel", name := "status", desc := "()I" } : Jvm.MethodName) prog_12_method_53_code (1 : Nat) (Option.some Jvm.ClassFile.FieldType.int)) ∈ lw_tbl := in_tb 1732 (by decide +kernel)
theorem wt_1733 : (Jvm.Cond.methodLink "BranchingStoryLaw" (161 : Nat) ({ cls := "BranchingStoryModel", name := "ending", desc := "()I" } : Jvm.MethodName)) ∈ lw_tbl := in_tb 1733 (by decide +kernel)
theorem wt_1734 : (Jvm.Cond.instanceMethod ({ cls := "BranchingStoryModel", name := "ending", desc := "()I" } : Jvm.MethodName)) ∈ lw_tbl := in_tb 1734 (by decide +kernel)
theorem wt_1735 : (Jvm.Cond.selects "BranchingStoryModel" ({ cls := "BranchingStoryModel", name := "ending", desc := "()I" } : Jvm.MethodName) ({ cls := "BranchingStoryModel", name := "ending", desc := "()I" } : Jvm.MethodName)) ∈ lw_tbl := in_tb 1735 (by decide +kernel)
theorem wt_1736 : (Jvm.Cond.code ({ cls := "BranchingStoryModel", name := "ending", desc := "()I" } : Jvm.MethodName) prog_12_method_54_code (1 : Nat) (Option.some Jvm.ClassFile.FieldType.int)) ∈ lw_tbl := in_tb 1736 (by decide +kernel)
theorem wt_1737 : (Jvm.Cond.methodLink "BranchingStoryLaw" (165 : Nat) ({ cls := "BranchingStoryModel", name := "node", desc := "()I" } : Jvm.MethodName)) ∈ lw_tbl := in_tb 1737 (by decide +kernel)
theorem wt_1738 : (Jvm.Cond.instanceMethod ({ cls := "BranchingStoryModel", name := "node", desc := "()I" } : Jvm.MethodName)) ∈ lw_tbl := in_tb 1738 (by decide +kernel)
theorem wt_1739 : (Jvm.Cond.selects "BranchingStoryModel" ({ cls := "BranchingStoryModel", name := "node", desc := "()I" } : Jvm.MethodName) ({ cls := "BranchingStoryModel", name := "node", desc := "()I" } : Jvm.MethodName)) ∈ lw_tbl := in_tb 1739 (by decide +kernel)
theorem wt_1740 : (Jvm.Cond.code ({ cls := "BranchingStoryModel", name := "node", desc := "()I" } : Jvm.MethodName) prog_12_method_55_code (1 : Nat) (Option.some Jvm.ClassFile.FieldType.int)) ∈ lw_tbl := in_tb 1740 (by decide +kernel)
theorem wt_1741 : (Jvm.Cond.methodLink "BranchingStoryLaw" (169 : Nat) ({ cls := "BranchingStoryModel", name := "hub", desc := "()I" } : Jvm.MethodName)) ∈ lw_tbl := in_tb 1741 (by decide +kernel)
theorem wt_1742 : (Jvm.Cond.instanceMethod ({ cls := "BranchingStoryModel", name := "hub", desc := "()I" } : Jvm.MethodName)) ∈ lw_tbl := in_tb 1742 (by decide +kernel)
theorem wt_1743 : (Jvm.Cond.selects "BranchingStoryModel" ({ cls := "BranchingStoryModel", name := "hub", desc := "()I" } : Jvm.MethodName) ({ cls := "BranchingStoryModel", name := "hub", desc := "()I" } : Jvm.MethodName)) ∈ lw_tbl := in_tb 1743 (by decide +kernel)
theorem wt_1744 : (Jvm.Cond.code ({ cls := "BranchingStoryModel", name := "hub", desc := "()I" } : Jvm.MethodName) prog_12_method_56_code (1 : Nat) (Option.some Jvm.ClassFile.FieldType.int)) ∈ lw_tbl := in_tb 1744 (by decide +kernel)
theorem wt_1745 : (Jvm.Cond.methodLink "BranchingStoryLaw" (173 : Nat) ({ cls := "BranchingStoryModel", name := "offered", desc := "()I" } : Jvm.MethodName)) ∈ lw_tbl := in_tb 1745 (by decide +kernel)
theorem wt_1746 : (Jvm.Cond.instanceMethod ({ cls := "BranchingStoryModel", name := "offered", desc := "()I" } : Jvm.MethodName)) ∈ lw_tbl := in_tb 1746 (by decide +kernel)
theorem wt_1747 : (Jvm.Cond.selects "BranchingStoryModel" ({ cls := "BranchingStoryModel", name := "offered", desc := "()I" } : Jvm.MethodName) ({ cls := "BranchingStoryModel", name := "offered", desc := "()I" } : Jvm.MethodName)) ∈ lw_tbl := in_tb 1747 (by decide +kernel)
theorem wt_1748 : (Jvm.Cond.code ({ cls := "BranchingStoryModel", name := "offered", desc := "()I" } : Jvm.MethodName) prog_12_method_57_code (1 : Nat) (Option.some Jvm.ClassFile.FieldType.int)) ∈ lw_tbl := in_tb 1748 (by decide +kernel)
theorem wt_1752 : (Jvm.Cond.methodLink "BranchingStoryLaw" (176 : Nat) ({ cls := "BranchingStoryModel", name := "choice", desc := "(I)I" } : Jvm.MethodName)) ∈ lw_tbl := in_tb 1752 (by decide +kernel)
theorem wt_1753 : (Jvm.Cond.instanceMethod ({ cls := "BranchingStoryModel", name := "choice", desc := "(I)I" } : Jvm.MethodName)) ∈ lw_tbl := in_tb 1753 (by decide +kernel)
theorem wt_1754 : (Jvm.Cond.selects "BranchingStoryModel" ({ cls := "BranchingStoryModel", name := "choice", desc := "(I)I" } : Jvm.MethodName) ({ cls := "BranchingStoryModel", name := "choice", desc := "(I)I" } : Jvm.MethodName)) ∈ lw_tbl := in_tb 1754 (by decide +kernel)
theorem wt_1755 : (Jvm.Cond.code ({ cls := "BranchingStoryModel", name := "choice", desc := "(I)I" } : Jvm.MethodName) prog_12_method_58_code (3 : Nat) (Option.some Jvm.ClassFile.FieldType.int)) ∈ lw_tbl := in_tb 1755 (by decide +kernel)
theorem wt_1756 : (Jvm.Cond.methodLink "BranchingStoryLaw" (179 : Nat) ({ cls := "BranchingStoryModel", name := "flag", desc := "(I)I" } : Jvm.MethodName)) ∈ lw_tbl := in_tb 1756 (by decide +kernel)
theorem wt_1757 : (Jvm.Cond.instanceMethod ({ cls := "BranchingStoryModel", name := "flag", desc := "(I)I" } : Jvm.MethodName)) ∈ lw_tbl := in_tb 1757 (by decide +kernel)
theorem wt_1758 : (Jvm.Cond.selects "BranchingStoryModel" ({ cls := "BranchingStoryModel", name := "flag", desc := "(I)I" } : Jvm.MethodName) ({ cls := "BranchingStoryModel", name := "flag", desc := "(I)I" } : Jvm.MethodName)) ∈ lw_tbl := in_tb 1758 (by decide +kernel)
theorem wt_1759 : (Jvm.Cond.code ({ cls := "BranchingStoryModel", name := "flag", desc := "(I)I" } : Jvm.MethodName) prog_12_method_59_code (2 : Nat) (Option.some Jvm.ClassFile.FieldType.int)) ∈ lw_tbl := in_tb 1759 (by decide +kernel)
theorem wt_1760 : (Jvm.Cond.methodLink "BranchingStoryLaw" (182 : Nat) ({ cls := "BranchingStoryModel", name := "meter", desc := "(I)I" } : Jvm.MethodName)) ∈ lw_tbl := in_tb 1760 (by decide +kernel)
theorem wt_1761 : (Jvm.Cond.instanceMethod ({ cls := "BranchingStoryModel", name := "meter", desc := "(I)I" } : Jvm.MethodName)) ∈ lw_tbl := in_tb 1761 (by decide +kernel)
theorem wt_1762 : (Jvm.Cond.selects "BranchingStoryModel" ({ cls := "BranchingStoryModel", name := "meter", desc := "(I)I" } : Jvm.MethodName) ({ cls := "BranchingStoryModel", name := "meter", desc := "(I)I" } : Jvm.MethodName)) ∈ lw_tbl := in_tb 1762 (by decide +kernel)
theorem wt_1763 : (Jvm.Cond.code ({ cls := "BranchingStoryModel", name := "meter", desc := "(I)I" } : Jvm.MethodName) prog_12_method_60_code (2 : Nat) (Option.some Jvm.ClassFile.FieldType.int)) ∈ lw_tbl := in_tb 1763 (by decide +kernel)
theorem wt_1764 : (Jvm.Cond.methodLink "BranchingStoryLaw" (186 : Nat) ({ cls := "BranchingStoryModel", name := "said", desc := "()I" } : Jvm.MethodName)) ∈ lw_tbl := in_tb 1764 (by decide +kernel)
theorem wt_1765 : (Jvm.Cond.instanceMethod ({ cls := "BranchingStoryModel", name := "said", desc := "()I" } : Jvm.MethodName)) ∈ lw_tbl := in_tb 1765 (by decide +kernel)
theorem wt_1766 : (Jvm.Cond.selects "BranchingStoryModel" ({ cls := "BranchingStoryModel", name := "said", desc := "()I" } : Jvm.MethodName) ({ cls := "BranchingStoryModel", name := "said", desc := "()I" } : Jvm.MethodName)) ∈ lw_tbl := in_tb 1766 (by decide +kernel)
theorem wt_1767 : (Jvm.Cond.code ({ cls := "BranchingStoryModel", name := "said", desc := "()I" } : Jvm.MethodName) prog_12_method_61_code (1 : Nat) (Option.some Jvm.ClassFile.FieldType.int)) ∈ lw_tbl := in_tb 1767 (by decide +kernel)
theorem wt_1768 : (Jvm.Cond.methodLink "BranchingStoryLaw" (189 : Nat) ({ cls := "BranchingStoryModel", name := "line", desc := "(I)I" } : Jvm.MethodName)) ∈ lw_tbl := in_tb 1768 (by decide +kernel)
theorem wt_1769 : (Jvm.Cond.instanceMethod ({ cls := "BranchingStoryModel", name := "line", desc := "(I)I" } : Jvm.MethodName)) ∈ lw_tbl := in_tb 1769 (by decide +kernel)
theorem wt_1770 : (Jvm.Cond.selects "BranchingStoryModel" ({ cls := "BranchingStoryModel", name := "line", desc := "(I)I" } : Jvm.MethodName) ({ cls := "BranchingStoryModel", name := "line", desc := "(I)I" } : Jvm.MethodName)) ∈ lw_tbl := in_tb 1770 (by decide +kernel)
theorem wt_1771 : (Jvm.Cond.code ({ cls := "BranchingStoryModel", name := "line", desc := "(I)I" } : Jvm.MethodName) prog_12_method_62_code (2 : Nat) (Option.some Jvm.ClassFile.FieldType.int)) ∈ lw_tbl := in_tb 1771 (by decide +kernel)
theorem wt_1772 : (Jvm.Cond.methodLink "BranchingStoryLaw" (192 : Nat) ({ cls := "BranchingStoryModel", name := "explore", desc := "(I)I" } : Jvm.MethodName)) ∈ lw_tbl := in_tb 1772 (by decide +kernel)
theorem wt_1773 : (Jvm.Cond.instanceMethod ({ cls := "BranchingStoryModel", name := "explore", desc := "(I)I" } : Jvm.MethodName)) ∈ lw_tbl := in_tb 1773 (by decide +kernel)
theorem wt_1774 : (Jvm.Cond.selects "BranchingStoryModel" ({ cls := "BranchingStoryModel", name := "explore", desc := "(I)I" } : Jvm.MethodName) ({ cls := "BranchingStoryModel", name := "explore", desc := "(I)I" } : Jvm.MethodName)) ∈ lw_tbl := in_tb 1774 (by decide +kernel)
theorem wt_1775 : (Jvm.Cond.code ({ cls := "BranchingStoryModel", name := "explore", desc := "(I)I" } : Jvm.MethodName) prog_12_method_69_code (5 : Nat) (Option.some Jvm.ClassFile.FieldType.int)) ∈ lw_tbl := in_tb 1775 (by decide +kernel)
theorem wt_1800 : (Jvm.Cond.methodLink "BranchingStoryLaw" (195 : Nat) ({ cls := "BranchingStoryModel", name := "isComplete", desc := "()Z" } : Jvm.MethodName)) ∈ lw_tbl := in_tb 1800 (by decide +kernel)
theorem wt_1801 : (Jvm.Cond.instanceMethod ({ cls := "BranchingStoryModel", name := "isComplete", desc := "()Z" } : Jvm.MethodName)) ∈ lw_tbl := in_tb 1801 (by decide +kernel)
theorem wt_1802 : (Jvm.Cond.selects "BranchingStoryModel" ({ cls := "BranchingStoryModel", name := "isComplete", desc := "()Z" } : Jvm.MethodName) ({ cls := "BranchingStoryModel", name := "isComplete", desc := "()Z" } : Jvm.MethodName)) ∈ lw_tbl := in_tb 1802 (by decide +kernel)
theorem wt_1803 : (Jvm.Cond.code ({ cls := "BranchingStoryModel", name := "isComplete", desc := "()Z" } : Jvm.MethodName) prog_12_method_70_code (1 : Nat) (Option.some Jvm.ClassFile.FieldType.boolean)) ∈ lw_tbl := in_tb 1803 (by decide +kernel)
theorem wt_1804 : (Jvm.Cond.methodLink "BranchingStoryLaw" (198 : Nat) ({ cls := "BranchingStoryModel", name := "wayLength", desc := "(I)I" } : Jvm.MethodName)) ∈ lw_tbl := in_tb 1804 (by decide +kernel)
theorem wt_1805 : (Jvm.Cond.instanceMethod ({ cls := "BranchingStoryModel", name := "wayLength", desc := "(I)I" } : Jvm.MethodName)) ∈ lw_tbl := in_tb 1805 (by decide +kernel)
theorem wt_1806 : (Jvm.Cond.selects "BranchingStoryModel" ({ cls := "BranchingStoryModel", name := "wayLength", desc := "(I)I" } : Jvm.MethodName) ({ cls := "BranchingStoryModel", name := "wayLength", desc := "(I)I" } : Jvm.MethodName)) ∈ lw_tbl := in_tb 1806 (by decide +kernel)
theorem wt_1807 : (Jvm.Cond.code ({ cls := "BranchingStoryModel", name := "wayLength", desc := "(I)I" } : Jvm.MethodName) prog_12_method_73_code (2 : Nat) (Option.some Jvm.ClassFile.FieldType.int)) ∈ lw_tbl := in_tb 1807 (by decide +kernel)
theorem wt_1816 : (Jvm.Cond.methodLink "BranchingStoryLaw" (202 : Nat) ({ cls := "BranchingStoryModel", name := "way", desc := "(II)I" } : Jvm.MethodName)) ∈ lw_tbl := in_tb 1816 (by decide +kernel)
theorem wt_1817 : (Jvm.Cond.instanceMethod ({ cls := "BranchingStoryModel", name := "way", desc := "(II)I" } : Jvm.MethodName)) ∈ lw_tbl := in_tb 1817 (by decide +kernel)
theorem wt_1818 : (Jvm.Cond.selects "BranchingStoryModel" ({ cls := "BranchingStoryModel", name := "way", desc := "(II)I" } : Jvm.MethodName) ({ cls := "BranchingStoryModel", name := "way", desc := "(II)I" } : Jvm.MethodName)) ∈ lw_tbl := in_tb 1818 (by decide +kernel)
theorem wt_1819 : (Jvm.Cond.code ({ cls := "BranchingStoryModel", name := "way", desc := "(II)I" } : Jvm.MethodName) prog_12_method_74_code (7 : Nat) (Option.some Jvm.ClassFile.FieldType.int)) ∈ lw_tbl := in_tb 1819 (by decide +kernel)
theorem wt_1820 : (Jvm.Cond.methodLink "BranchingStoryLaw" (205 : Nat) ({ cls := "BranchingStoryModel", name := "outcomes", desc := "(I)I" } : Jvm.MethodName)) ∈ lw_tbl := in_tb 1820 (by decide +kernel)
theorem wt_1821 : (Jvm.Cond.instanceMethod ({ cls := "BranchingStoryModel", name := "outcomes", desc := "(I)I" } : Jvm.MethodName)) ∈ lw_tbl := in_tb 1821 (by decide +kernel)
theorem wt_1822 : (Jvm.Cond.selects "BranchingStoryModel" ({ cls := "BranchingStoryModel", name := "outcomes", desc := "(I)I" } : Jvm.MethodName) ({ cls := "BranchingStoryModel", name := "outcomes", desc := "(I)I" } : Jvm.MethodName)) ∈ lw_tbl := in_tb 1822 (by decide +kernel)
theorem wt_1823 : (Jvm.Cond.code ({ cls := "BranchingStoryModel", name := "outcomes", desc := "(I)I" } : Jvm.MethodName) prog_12_method_75_code (2 : Nat) (Option.some Jvm.ClassFile.FieldType.int)) ∈ lw_tbl := in_tb 1823 (by decide +kernel)
theorem wt_1824 : (Jvm.Cond.methodLink "BranchingStoryLaw" (208 : Nat) ({ cls := "BranchingStoryModel", name := "occurred", desc := "(II)Z" } : Jvm.MethodName)) ∈ lw_tbl := in_tb 1824 (by decide +kernel)
theorem wt_1825 : (Jvm.Cond.instanceMethod ({ cls := "BranchingStoryModel", name := "occurred", desc := "(II)Z" } : Jvm.MethodName)) ∈ lw_tbl := in_tb 1825 (by decide +kernel)
theorem wt_1826 : (Jvm.Cond.selects "BranchingStoryModel" ({ cls := "BranchingStoryModel", name := "occurred", desc := "(II)Z" } : Jvm.MethodName) ({ cls := "BranchingStoryModel", name := "occurred", desc := "(II)Z" } : Jvm.MethodName)) ∈ lw_tbl := in_tb 1826 (by decide +kernel)
theorem wt_1827 : (Jvm.Cond.code ({ cls := "BranchingStoryModel", name := "occurred", desc := "(II)Z" } : Jvm.MethodName) prog_12_method_76_code (3 : Nat) (Option.some Jvm.ClassFile.FieldType.boolean)) ∈ lw_tbl := in_tb 1827 (by decide +kernel)
theorem wt_1828 : (Jvm.Cond.methodLink "BranchingStoryLaw" (211 : Nat) ({ cls := "BranchingStoryModel", name := "analyze", desc := "()I" } : Jvm.MethodName)) ∈ lw_tbl := in_tb 1828 (by decide +kernel)
theorem wt_1829 : (Jvm.Cond.instanceMethod ({ cls := "BranchingStoryModel", name := "analyze", desc := "()I" } : Jvm.MethodName)) ∈ lw_tbl := in_tb 1829 (by decide +kernel)
theorem wt_1830 : (Jvm.Cond.selects "BranchingStoryModel" ({ cls := "BranchingStoryModel", name := "analyze", desc := "()I" } : Jvm.MethodName) ({ cls := "BranchingStoryModel", name := "analyze", desc := "()I" } : Jvm.MethodName)) ∈ lw_tbl := in_tb 1830 (by decide +kernel)
theorem wt_1831 : (Jvm.Cond.code ({ cls := "BranchingStoryModel", name := "analyze", desc := "()I" } : Jvm.MethodName) prog_12_method_95_code (3 : Nat) (Option.some Jvm.ClassFile.FieldType.int)) ∈ lw_tbl := in_tb 1831 (by decide +kernel)
theorem wt_1900 : (Jvm.Cond.methodLink "BranchingStoryLaw" (214 : Nat) ({ cls := "BranchingStoryModel", name := "isReached", desc := "(II)Z" } : Jvm.MethodName)) ∈ lw_tbl := in_tb 1900 (by decide +kernel)
theorem wt_1901 : (Jvm.Cond.instanceMethod ({ cls := "BranchingStoryModel", name := "isReached", desc := "(II)Z" } : Jvm.MethodName)) ∈ lw_tbl := in_tb 1901 (by decide +kernel)
theorem wt_1902 : (Jvm.Cond.selects "BranchingStoryModel" ({ cls := "BranchingStoryModel", name := "isReached", desc := "(II)Z" } : Jvm.MethodName) ({ cls := "BranchingStoryModel", name := "isReached", desc := "(II)Z" } : Jvm.MethodName)) ∈ lw_tbl := in_tb 1902 (by decide +kernel)
theorem wt_1903 : (Jvm.Cond.code ({ cls := "BranchingStoryModel", name := "isReached", desc := "(II)Z" } : Jvm.MethodName) prog_12_method_96_code (3 : Nat) (Option.some Jvm.ClassFile.FieldType.boolean)) ∈ lw_tbl := in_tb 1903 (by decide +kernel)
theorem wt_1904 : (Jvm.Cond.methodLink "BranchingStoryLaw" (217 : Nat) ({ cls := "BranchingStoryModel", name := "lowest", desc := "(II)I" } : Jvm.MethodName)) ∈ lw_tbl := in_tb 1904 (by decide +kernel)
theorem wt_1905 : (Jvm.Cond.instanceMethod ({ cls := "BranchingStoryModel", name := "lowest", desc := "(II)I" } : Jvm.MethodName)) ∈ lw_tbl := in_tb 1905 (by decide +kernel)
theorem wt_1906 : (Jvm.Cond.selects "BranchingStoryModel" ({ cls := "BranchingStoryModel", name := "lowest", desc := "(II)I" } : Jvm.MethodName) ({ cls := "BranchingStoryModel", name := "lowest", desc := "(II)I" } : Jvm.MethodName)) ∈ lw_tbl := in_tb 1906 (by decide +kernel)
theorem wt_1907 : (Jvm.Cond.code ({ cls := "BranchingStoryModel", name := "lowest", desc := "(II)I" } : Jvm.MethodName) prog_12_method_98_code (3 : Nat) (Option.some Jvm.ClassFile.FieldType.int)) ∈ lw_tbl := in_tb 1907 (by decide +kernel)
theorem wt_1912 : (Jvm.Cond.methodLink "BranchingStoryLaw" (220 : Nat) ({ cls := "BranchingStoryModel", name := "greatest", desc := "(II)I" } : Jvm.MethodName)) ∈ lw_tbl := in_tb 1912 (by decide +kernel)
theorem wt_1913 : (Jvm.Cond.instanceMethod ({ cls := "BranchingStoryModel", name := "greatest", desc := "(II)I" } : Jvm.MethodName)) ∈ lw_tbl := in_tb 1913 (by decide +kernel)
theorem wt_1914 : (Jvm.Cond.selects "BranchingStoryModel" ({ cls := "BranchingStoryModel", name := "greatest", desc := "(II)I" } : Jvm.MethodName) ({ cls := "BranchingStoryModel", name := "greatest", desc := "(II)I" } : Jvm.MethodName)) ∈ lw_tbl := in_tb 1914 (by decide +kernel)
theorem wt_1915 : (Jvm.Cond.code ({ cls := "BranchingStoryModel", name := "greatest", desc := "(II)I" } : Jvm.MethodName) prog_12_method_99_code (3 : Nat) (Option.some Jvm.ClassFile.FieldType.int)) ∈ lw_tbl := in_tb 1915 (by decide +kernel)
theorem wt_1916 : (Jvm.Cond.methodLink "BranchingStoryLaw" (223 : Nat) ({ cls := "BranchingStoryModel", name := "values", desc := "(II)I" } : Jvm.MethodName)) ∈ lw_tbl := in_tb 1916 (by decide +kernel)
theorem wt_1917 : (Jvm.Cond.instanceMethod ({ cls := "BranchingStoryModel", name := "values", desc := "(II)I" } : Jvm.MethodName)) ∈ lw_tbl := in_tb 1917 (by decide +kernel)
theorem wt_1918 : (Jvm.Cond.selects "BranchingStoryModel" ({ cls := "BranchingStoryModel", name := "values", desc := "(II)I" } : Jvm.MethodName) ({ cls := "BranchingStoryModel", name := "values", desc := "(II)I" } : Jvm.MethodName)) ∈ lw_tbl := in_tb 1918 (by decide +kernel)
theorem wt_1919 : (Jvm.Cond.code ({ cls := "BranchingStoryModel", name := "values", desc := "(II)I" } : Jvm.MethodName) prog_12_method_100_code (4 : Nat) (Option.some Jvm.ClassFile.FieldType.int)) ∈ lw_tbl := in_tb 1919 (by decide +kernel)
theorem wt_1920 : (Jvm.Cond.methodLink "BranchingStoryLaw" (226 : Nat) ({ cls := "BranchingStoryModel", name := "hubs", desc := "(I)I" } : Jvm.MethodName)) ∈ lw_tbl := in_tb 1920 (by decide +kernel)
theorem wt_1921 : (Jvm.Cond.instanceMethod ({ cls := "BranchingStoryModel", name := "hubs", desc := "(I)I" } : Jvm.MethodName)) ∈ lw_tbl := in_tb 1921 (by decide +kernel)
theorem wt_1922 : (Jvm.Cond.selects "BranchingStoryModel" ({ cls := "BranchingStoryModel", name := "hubs", desc := "(I)I" } : Jvm.MethodName) ({ cls := "BranchingStoryModel", name := "hubs", desc := "(I)I" } : Jvm.MethodName)) ∈ lw_tbl := in_tb 1922 (by decide +kernel)
theorem wt_1923 : (Jvm.Cond.code ({ cls := "BranchingStoryModel", name := "hubs", desc := "(I)I" } : Jvm.MethodName) prog_12_method_101_code (2 : Nat) (Option.some Jvm.ClassFile.FieldType.int)) ∈ lw_tbl := in_tb 1923 (by decide +kernel)
theorem wt_1924 : (Jvm.Cond.methodLink "BranchingStoryLaw" (229 : Nat) ({ cls := "BranchingStoryModel", name := "verdict", desc := "(I)I" } : Jvm.MethodName)) ∈ lw_tbl := in_tb 1924 (by decide +kernel)
theorem wt_1925 : (Jvm.Cond.instanceMethod ({ cls := "BranchingStoryModel", name := "verdict", desc := "(I)I" } : Jvm.MethodName)) ∈ lw_tbl := in_tb 1925 (by decide +kernel)
theorem wt_1926 : (Jvm.Cond.selects "BranchingStoryModel" ({ cls := "BranchingStoryModel", name := "verdict", desc := "(I)I" } : Jvm.MethodName) ({ cls := "BranchingStoryModel", name := "verdict", desc := "(I)I" } : Jvm.MethodName)) ∈ lw_tbl := in_tb 1926 (by decide +kernel)
theorem wt_1927 : (Jvm.Cond.code ({ cls := "BranchingStoryModel", name := "verdict", desc := "(I)I" } : Jvm.MethodName) prog_12_method_102_code (2 : Nat) (Option.some Jvm.ClassFile.FieldType.int)) ∈ lw_tbl := in_tb 1927 (by decide +kernel)
theorem wt_1928 : (Jvm.Cond.methodLink "BranchingStoryLaw" (232 : Nat) ({ cls := "BranchingStoryModel", name := "possible", desc := "(I)I" } : Jvm.MethodName)) ∈ lw_tbl := in_tb 1928 (by decide +kernel)
theorem wt_1929 : (Jvm.Cond.instanceMethod ({ cls := "BranchingStoryModel", name := "possible", desc := "(I)I" } : Jvm.MethodName)) ∈ lw_tbl := in_tb 1929 (by decide +kernel)
theorem wt_1930 : (Jvm.Cond.selects "BranchingStoryModel" ({ cls := "BranchingStoryModel", name := "possible", desc := "(I)I" } : Jvm.MethodName) ({ cls := "BranchingStoryModel", name := "possible", desc := "(I)I" } : Jvm.MethodName)) ∈ lw_tbl := in_tb 1930 (by decide +kernel)
theorem wt_1931 : (Jvm.Cond.code ({ cls := "BranchingStoryModel", name := "possible", desc := "(I)I" } : Jvm.MethodName) prog_12_method_103_code (2 : Nat) (Option.some Jvm.ClassFile.FieldType.int)) ∈ lw_tbl := in_tb 1931 (by decide +kernel)
theorem cs_L_114 : CVw RL 114 yX10_type cX10_type 2 (some .int) 1 := ⟨Or.inl wt_1533, wt_1534, wt_1535, wt_10, wt_1536, by decide, by decide, by decide +kernel⟩
theorem cs_L_115 : CVw RL 115 yX10_thrown cX10_thrown 1 (some .int) 0 := ⟨Or.inl wt_1529, wt_1530, wt_1531, wt_10, wt_1532, by decide, by decide, by decide +kernel⟩
theorem cs_L_118 : CVw RL 118 yX9_clearText cX9_clearText 2 (some .int) 0 := ⟨Or.inl wt_444, wt_445, wt_446, wt_1, wt_447, by decide, by decide, by decide +kernel⟩
theorem cs_L_121 : CVw RL 121 yX10_clearText cX10_clearText 2 (some .int) 0 := ⟨Or.inl wt_1544, wt_1545, wt_1546, wt_10, wt_1547, by decide, by decide, by decide +kernel⟩
theorem cs_L_122 : CVw RL 122 yX9_fault cX9_fault 1 (some .int) 0 := ⟨Or.inl wt_448, wt_449, wt_450, wt_1, wt_451, by decide, by decide, by decide +kernel⟩
theorem cs_L_125 : CVw RL 125 yX10_fault cX10_fault 3 (some .int) 0 := ⟨Or.inl wt_1548, wt_1549, wt_1550, wt_10, wt_1551, by decide, by decide, by decide +kernel⟩
theorem cs_L_129 : CVw RL 129 yX10_build cX10_build 2 (some .int) 0 := ⟨Or.inl wt_1628, wt_1629, wt_1630, wt_10, wt_1631, by decide, by decide, by decide +kernel⟩
theorem cs_L_132 : CVw RL 132 yX10_count cX10_count 2 (some .int) 1 := ⟨Or.inl wt_1633, wt_1634, wt_1635, wt_10, wt_1636, by decide, by decide, by decide +kernel⟩
theorem cs_L_135 : CVw RL 135 yX10_name cX10_name 2 (some .int) 1 := ⟨Or.inl wt_1637, wt_1638, wt_1639, wt_10, wt_1640, by decide, by decide, by decide +kernel⟩
theorem cs_L_138 : CVw RL 138 yX10_isHub cX10_isHub 2 (some .boolean) 1 := ⟨Or.inl wt_1645, wt_1646, wt_1647, wt_10, wt_1648, by decide, by decide, by decide +kernel⟩
theorem cs_L_141 : CVw RL 141 yX10_label cX10_label 2 (some .int) 1 := ⟨Or.inl wt_1649, wt_1650, wt_1651, wt_10, wt_1652, by decide, by decide, by decide +kernel⟩
theorem cs_L_144 : CVw RL 144 yX10_nodeOf cX10_nodeOf 2 (some .int) 1 := ⟨Or.inl wt_1657, wt_1658, wt_1659, wt_10, wt_1660, by decide, by decide, by decide +kernel⟩
theorem cs_L_147 : CVw RL 147 yX10_start cX10_start 1 (some .int) 0 := ⟨Or.inl wt_1665, wt_1666, wt_1667, wt_10, wt_1668, by decide, by decide, by decide +kernel⟩
theorem cs_L_150 : CVw RL 150 yX10_choose cX10_choose 4 (some .int) 1 := ⟨Or.inl wt_1713, wt_1714, wt_1715, wt_10, wt_1716, by decide, by decide, by decide +kernel⟩
theorem cs_L_153 : CVw RL 153 yX10_back cX10_back 2 (some .int) 0 := ⟨Or.inl wt_1725, wt_1726, wt_1727, wt_10, wt_1728, by decide, by decide, by decide +kernel⟩
theorem cs_L_154 : CVw RL 154 yX9_status cX9_status 1 (some .int) 0 := ⟨Or.inl wt_611, wt_612, wt_613, wt_1, wt_614, by decide, by decide, by decide +kernel⟩
theorem cs_L_157 : CVw RL 157 yX10_status cX10_status 1 (some .int) 0 := ⟨Or.inl wt_1729, wt_1730, wt_1731, wt_10, wt_1732, by decide, by decide, by decide +kernel⟩
theorem cs_L_158 : CVw RL 158 yX9_ending cX9_ending 1 (some .int) 0 := ⟨Or.inl wt_615, wt_616, wt_617, wt_1, wt_618, by decide, by decide, by decide +kernel⟩
theorem cs_L_161 : CVw RL 161 yX10_ending cX10_ending 1 (some .int) 0 := ⟨Or.inl wt_1733, wt_1734, wt_1735, wt_10, wt_1736, by decide, by decide, by decide +kernel⟩
theorem cs_L_162 : CVw RL 162 yX9_node cX9_node 1 (some .int) 0 := ⟨Or.inl wt_619, wt_620, wt_621, wt_1, wt_622, by decide, by decide, by decide +kernel⟩
theorem cs_L_165 : CVw RL 165 yX10_node cX10_node 1 (some .int) 0 := ⟨Or.inl wt_1737, wt_1738, wt_1739, wt_10, wt_1740, by decide, by decide, by decide +kernel⟩
theorem cs_L_166 : CVw RL 166 yX9_hub cX9_hub 1 (some .int) 0 := ⟨Or.inl wt_623, wt_624, wt_625, wt_1, wt_626, by decide, by decide, by decide +kernel⟩
theorem cs_L_169 : CVw RL 169 yX10_hub cX10_hub 1 (some .int) 0 := ⟨Or.inl wt_1741, wt_1742, wt_1743, wt_10, wt_1744, by decide, by decide, by decide +kernel⟩
theorem cs_L_170 : CVw RL 170 yX9_offered cX9_offered 1 (some .int) 0 := ⟨Or.inl wt_627, wt_628, wt_629, wt_1, wt_630, by decide, by decide, by decide +kernel⟩
theorem cs_L_173 : CVw RL 173 yX10_offered cX10_offered 1 (some .int) 0 := ⟨Or.inl wt_1745, wt_1746, wt_1747, wt_10, wt_1748, by decide, by decide, by decide +kernel⟩
theorem cs_L_176 : CVw RL 176 yX10_choice cX10_choice 3 (some .int) 1 := ⟨Or.inl wt_1752, wt_1753, wt_1754, wt_10, wt_1755, by decide, by decide, by decide +kernel⟩
theorem cs_L_179 : CVw RL 179 yX10_flag cX10_flag 2 (some .int) 1 := ⟨Or.inl wt_1756, wt_1757, wt_1758, wt_10, wt_1759, by decide, by decide, by decide +kernel⟩
theorem cs_L_182 : CVw RL 182 yX10_meter cX10_meter 2 (some .int) 1 := ⟨Or.inl wt_1760, wt_1761, wt_1762, wt_10, wt_1763, by decide, by decide, by decide +kernel⟩
theorem cs_L_183 : CVw RL 183 yX9_said cX9_said 1 (some .int) 0 := ⟨Or.inl wt_637, wt_638, wt_639, wt_1, wt_640, by decide, by decide, by decide +kernel⟩
theorem cs_L_186 : CVw RL 186 yX10_said cX10_said 1 (some .int) 0 := ⟨Or.inl wt_1764, wt_1765, wt_1766, wt_10, wt_1767, by decide, by decide, by decide +kernel⟩
theorem cs_L_189 : CVw RL 189 yX10_line cX10_line 2 (some .int) 1 := ⟨Or.inl wt_1768, wt_1769, wt_1770, wt_10, wt_1771, by decide, by decide, by decide +kernel⟩
theorem cs_L_192 : CVw RL 192 yX10_explore cX10_explore 5 (some .int) 1 := ⟨Or.inl wt_1772, wt_1773, wt_1774, wt_10, wt_1775, by decide, by decide, by decide +kernel⟩
theorem cs_L_195 : CVw RL 195 yX10_isComplete cX10_isComplete 1 (some .boolean) 0 := ⟨Or.inl wt_1800, wt_1801, wt_1802, wt_10, wt_1803, by decide, by decide, by decide +kernel⟩
theorem cs_L_198 : CVw RL 198 yX10_wayLength cX10_wayLength 2 (some .int) 1 := ⟨Or.inl wt_1804, wt_1805, wt_1806, wt_10, wt_1807, by decide, by decide, by decide +kernel⟩
theorem cs_L_202 : CVw RL 202 yX10_way cX10_way 7 (some .int) 2 := ⟨Or.inl wt_1816, wt_1817, wt_1818, wt_10, wt_1819, by decide, by decide, by decide +kernel⟩
theorem cs_L_205 : CVw RL 205 yX10_outcomes cX10_outcomes 2 (some .int) 1 := ⟨Or.inl wt_1820, wt_1821, wt_1822, wt_10, wt_1823, by decide, by decide, by decide +kernel⟩
theorem cs_L_208 : CVw RL 208 yX10_occurred cX10_occurred 3 (some .boolean) 2 := ⟨Or.inl wt_1824, wt_1825, wt_1826, wt_10, wt_1827, by decide, by decide, by decide +kernel⟩
theorem cs_L_211 : CVw RL 211 yX10_analyze cX10_analyze 3 (some .int) 0 := ⟨Or.inl wt_1828, wt_1829, wt_1830, wt_10, wt_1831, by decide, by decide, by decide +kernel⟩
theorem cs_L_214 : CVw RL 214 yX10_isReached cX10_isReached 3 (some .boolean) 2 := ⟨Or.inl wt_1900, wt_1901, wt_1902, wt_10, wt_1903, by decide, by decide, by decide +kernel⟩
theorem cs_L_217 : CVw RL 217 yX10_lowest cX10_lowest 3 (some .int) 2 := ⟨Or.inl wt_1904, wt_1905, wt_1906, wt_10, wt_1907, by decide, by decide, by decide +kernel⟩
theorem cs_L_220 : CVw RL 220 yX10_greatest cX10_greatest 3 (some .int) 2 := ⟨Or.inl wt_1912, wt_1913, wt_1914, wt_10, wt_1915, by decide, by decide, by decide +kernel⟩
theorem cs_L_223 : CVw RL 223 yX10_values cX10_values 4 (some .int) 2 := ⟨Or.inl wt_1916, wt_1917, wt_1918, wt_10, wt_1919, by decide, by decide, by decide +kernel⟩
theorem cs_L_226 : CVw RL 226 yX10_hubs cX10_hubs 2 (some .int) 1 := ⟨Or.inl wt_1920, wt_1921, wt_1922, wt_10, wt_1923, by decide, by decide, by decide +kernel⟩
theorem cs_L_229 : CVw RL 229 yX10_verdict cX10_verdict 2 (some .int) 1 := ⟨Or.inl wt_1924, wt_1925, wt_1926, wt_10, wt_1927, by decide, by decide, by decide +kernel⟩
theorem cs_L_232 : CVw RL 232 yX10_possible cX10_possible 2 (some .int) 1 := ⟨Or.inl wt_1928, wt_1929, wt_1930, wt_10, wt_1931, by decide, by decide, by decide +kernel⟩
theorem wt_641 : (Jvm.Cond.methodLink "BranchingStoryLaw" (109 : Nat) ({ cls := "BranchingStoryLaw", name := "type", desc := "(LBranchingStory;I[J)I" } : Jvm.MethodName)) ∈ lw_tbl := in_tb 641 (by decide +kernel)
theorem wt_642 : (Jvm.Cond.static ({ cls := "BranchingStoryLaw", name := "type", desc := "(LBranchingStory;I[J)I" } : Jvm.MethodName)) ∈ lw_tbl := in_tb 642 (by decide +kernel)
theorem wt_0 : (Jvm.Cond.initialized "BranchingStoryLaw") ∈ lw_tbl := in_tb 0 (by decide +kernel)
theorem wt_643 : (Jvm.Cond.codeWith ({ cls := "BranchingStoryLaw", name := "type", desc := "(LBranchingStory;I[J)I" } : Jvm.MethodName) method_3_code (4 : Nat) (Option.some Jvm.ClassFile.FieldType.int) [((0 : Nat), (9 : Nat), (12 : Nat), (13 : Nat)), ((0 : Nat), (9 : Nat), (15 : Nat), (15 : Nat))]) ∈ lw_tbl := in_tb 643 (by decide +kernel)
theorem hs_L_109 : HSw RL 109 yL_type cL_type 4 [(0, 9, 12, 13), (0, 9, 15, 15)] 3 := ⟨wt_641, wt_642, wt_0, wt_643, by decide, by decide, by decide +kernel⟩
theorem wt_734 : (Jvm.Cond.methodLink "BranchingStoryLaw" (126 : Nat) ({ cls := "BranchingStoryLaw", name := "build", desc := "(LBranchingStory;[J)I" } : Jvm.MethodName)) ∈ lw_tbl := in_tb 734 (by decide +kernel)
theorem wt_735 : (Jvm.Cond.static ({ cls := "BranchingStoryLaw", name := "build", desc := "(LBranchingStory;[J)I" } : Jvm.MethodName)) ∈ lw_tbl := in_tb 735 (by decide +kernel)
theorem wt_736 : (Jvm.Cond.codeWith ({ cls := "BranchingStoryLaw", name := "build", desc := "(LBranchingStory;[J)I" } : Jvm.MethodName) method_4_code (3 : Nat) (Option.some Jvm.ClassFile.FieldType.int) [((0 : Nat), (8 : Nat), (11 : Nat), (15 : Nat))]) ∈ lw_tbl := in_tb 736 (by decide +kernel)
theorem hs_L_126 : HSw RL 126 yL_build cL_build 3 [(0, 8, 11, 15)] 2 := ⟨wt_734, wt_735, wt_0, wt_736, by decide, by decide, by decide +kernel⟩
theorem wt_767 : (Jvm.Cond.methodLink "BranchingStoryLaw" (130 : Nat) ({ cls := "BranchingStoryLaw", name := "count", desc := "(LBranchingStory;I[J)I" } : Jvm.MethodName)) ∈ lw_tbl := in_tb 767 (by decide +kernel)
theorem wt_768 : (Jvm.Cond.static ({ cls := "BranchingStoryLaw", name := "count", desc := "(LBranchingStory;I[J)I" } : Jvm.MethodName)) ∈ lw_tbl := in_tb 768 (by decide +kernel)
theorem wt_769 : (Jvm.Cond.codeWith ({ cls := "BranchingStoryLaw", name := "count", desc := "(LBranchingStory;I[J)I" } : Jvm.MethodName) method_5_code (4 : Nat) (Option.some Jvm.ClassFile.FieldType.int) [((0 : Nat), (9 : Nat), (12 : Nat), (13 : Nat))]) ∈ lw_tbl := in_tb 769 (by decide +kernel)
theorem hs_L_130 : HSw RL 130 yL_count cL_count 4 [(0, 9, 12, 13)] 3 := ⟨wt_767, wt_768, wt_0, wt_769, by decide, by decide, by decide +kernel⟩
theorem wt_775 : (Jvm.Cond.methodLink "BranchingStoryLaw" (133 : Nat) ({ cls := "BranchingStoryLaw", name := "name", desc := "(LBranchingStory;I[J)I" } : Jvm.MethodName)) ∈ lw_tbl := in_tb 775 (by decide +kernel)
theorem wt_776 : (Jvm.Cond.static ({ cls := "BranchingStoryLaw", name := "name", desc := "(LBranchingStory;I[J)I" } : Jvm.MethodName)) ∈ lw_tbl := in_tb 776 (by decide +kernel)
theorem wt_777 : (Jvm.Cond.codeWith ({ cls := "BranchingStoryLaw", name := "name", desc := "(LBranchingStory;I[J)I" } : Jvm.MethodName) method_6_code (4 : Nat) (Option.some Jvm.ClassFile.FieldType.int) [((0 : Nat), (9 : Nat), (12 : Nat), (27 : Nat))]) ∈ lw_tbl := in_tb 777 (by decide +kernel)
theorem hs_L_133 : HSw RL 133 yL_name cL_name 4 [(0, 9, 12, 27)] 3 := ⟨wt_775, wt_776, wt_0, wt_777, by decide, by decide, by decide +kernel⟩
theorem wt_803 : (Jvm.Cond.methodLink "BranchingStoryLaw" (136 : Nat) ({ cls := "BranchingStoryLaw", name := "isHub", desc := "(LBranchingStory;I[J)I" } : Jvm.MethodName)) ∈ lw_tbl := in_tb 803 (by decide +kernel)
theorem wt_804 : (Jvm.Cond.static ({ cls := "BranchingStoryLaw", name := "isHub", desc := "(LBranchingStory;I[J)I" } : Jvm.MethodName)) ∈ lw_tbl := in_tb 804 (by decide +kernel)
theorem wt_805 : (Jvm.Cond.codeWith ({ cls := "BranchingStoryLaw", name := "isHub", desc := "(LBranchingStory;I[J)I" } : Jvm.MethodName) method_7_code (4 : Nat) (Option.some Jvm.ClassFile.FieldType.int) [((0 : Nat), (16 : Nat), (19 : Nat), (27 : Nat))]) ∈ lw_tbl := in_tb 805 (by decide +kernel)
theorem hs_L_136 : HSw RL 136 yL_isHub cL_isHub 4 [(0, 16, 19, 27)] 3 := ⟨wt_803, wt_804, wt_0, wt_805, by decide, by decide, by decide +kernel⟩
theorem wt_814 : (Jvm.Cond.methodLink "BranchingStoryLaw" (139 : Nat) ({ cls := "BranchingStoryLaw", name := "label", desc := "(LBranchingStory;I[J)I" } : Jvm.MethodName)) ∈ lw_tbl := in_tb 814 (by decide +kernel)
theorem wt_815 : (Jvm.Cond.static ({ cls := "BranchingStoryLaw", name := "label", desc := "(LBranchingStory;I[J)I" } : Jvm.MethodName)) ∈ lw_tbl := in_tb 815 (by decide +kernel)
theorem wt_816 : (Jvm.Cond.codeWith ({ cls := "BranchingStoryLaw", name := "label", desc := "(LBranchingStory;I[J)I" } : Jvm.MethodName) method_8_code (4 : Nat) (Option.some Jvm.ClassFile.FieldType.int) [((0 : Nat), (9 : Nat), (12 : Nat), (27 : Nat))]) ∈ lw_tbl := in_tb 816 (by decide +kernel)
theorem hs_L_139 : HSw RL 139 yL_label cL_label 4 [(0, 9, 12, 27)] 3 := ⟨wt_814, wt_815, wt_0, wt_816, by decide, by decide, by decide +kernel⟩
theorem wt_826 : (Jvm.Cond.methodLink "BranchingStoryLaw" (142 : Nat) ({ cls := "BranchingStoryLaw", name := "nodeOf", desc := "(LBranchingStory;I[J)I" } : Jvm.MethodName)) ∈ lw_tbl := in_tb 826 (by decide +kernel)
theorem wt_827 : (Jvm.Cond.static ({ cls := "BranchingStoryLaw", name := "nodeOf", desc := "(LBranchingStory;I[J)I" } : Jvm.MethodName)) ∈ lw_tbl := in_tb 827 (by decide +kernel)
theorem wt_828 : (Jvm.Cond.codeWith ({ cls := "BranchingStoryLaw", name := "nodeOf", desc := "(LBranchingStory;I[J)I" } : Jvm.MethodName) method_9_code (4 : Nat) (Option.some Jvm.ClassFile.FieldType.int) [((0 : Nat), (9 : Nat), (12 : Nat), (27 : Nat))]) ∈ lw_tbl := in_tb 828 (by decide +kernel)
theorem hs_L_142 : HSw RL 142 yL_nodeOf cL_nodeOf 4 [(0, 9, 12, 27)] 3 := ⟨wt_826, wt_827, wt_0, wt_828, by decide, by decide, by decide +kernel⟩
theorem wt_833 : (Jvm.Cond.methodLink "BranchingStoryLaw" (145 : Nat) ({ cls := "BranchingStoryLaw", name := "start", desc := "(LBranchingStory;[J)I" } : Jvm.MethodName)) ∈ lw_tbl := in_tb 833 (by decide +kernel)
theorem wt_834 : (Jvm.Cond.static ({ cls := "BranchingStoryLaw", name := "start", desc := "(LBranchingStory;[J)I" } : Jvm.MethodName)) ∈ lw_tbl := in_tb 834 (by decide +kernel)
theorem wt_835 : (Jvm.Cond.codeWith ({ cls := "BranchingStoryLaw", name := "start", desc := "(LBranchingStory;[J)I" } : Jvm.MethodName) method_10_code (3 : Nat) (Option.some Jvm.ClassFile.FieldType.int) [((0 : Nat), (8 : Nat), (11 : Nat), (15 : Nat))]) ∈ lw_tbl := in_tb 835 (by decide +kernel)
theorem hs_L_145 : HSw RL 145 yL_start cL_start 3 [(0, 8, 11, 15)] 2 := ⟨wt_833, wt_834, wt_0, wt_835, by decide, by decide, by decide +kernel⟩
theorem wt_906 : (Jvm.Cond.methodLink "BranchingStoryLaw" (148 : Nat) ({ cls := "BranchingStoryLaw", name := "choose", desc := "(LBranchingStory;I[J)I" } : Jvm.MethodName)) ∈ lw_tbl := in_tb 906 (by decide +kernel)
theorem wt_907 : (Jvm.Cond.static ({ cls := "BranchingStoryLaw", name := "choose", desc := "(LBranchingStory;I[J)I" } : Jvm.MethodName)) ∈ lw_tbl := in_tb 907 (by decide +kernel)
theorem wt_908 : (Jvm.Cond.codeWith ({ cls := "BranchingStoryLaw", name := "choose", desc := "(LBranchingStory;I[J)I" } : Jvm.MethodName) method_11_code (4 : Nat) (Option.some Jvm.ClassFile.FieldType.int) [((0 : Nat), (9 : Nat), (12 : Nat), (15 : Nat)), ((0 : Nat), (9 : Nat), (15 : Nat), (27 : Nat))]) ∈ lw_tbl := in_tb 908 (by decide +kernel)
theorem hs_L_148 : HSw RL 148 yL_choose cL_choose 4 [(0, 9, 12, 15), (0, 9, 15, 27)] 3 := ⟨wt_906, wt_907, wt_0, wt_908, by decide, by decide, by decide +kernel⟩
theorem wt_945 : (Jvm.Cond.methodLink "BranchingStoryLaw" (151 : Nat) ({ cls := "BranchingStoryLaw", name := "back", desc := "(LBranchingStory;[J)I" } : Jvm.MethodName)) ∈ lw_tbl := in_tb 945 (by decide +kernel)
theorem wt_946 : (Jvm.Cond.static ({ cls := "BranchingStoryLaw", name := "back", desc := "(LBranchingStory;[J)I" } : Jvm.MethodName)) ∈ lw_tbl := in_tb 946 (by decide +kernel)
theorem wt_947 : (Jvm.Cond.codeWith ({ cls := "BranchingStoryLaw", name := "back", desc := "(LBranchingStory;[J)I" } : Jvm.MethodName) method_12_code (3 : Nat) (Option.some Jvm.ClassFile.FieldType.int) [((0 : Nat), (8 : Nat), (11 : Nat), (15 : Nat))]) ∈ lw_tbl := in_tb 947 (by decide +kernel)
theorem hs_L_151 : HSw RL 151 yL_back cL_back 3 [(0, 8, 11, 15)] 2 := ⟨wt_945, wt_946, wt_0, wt_947, by decide, by decide, by decide +kernel⟩
theorem wt_966 : (Jvm.Cond.methodLink "BranchingStoryLaw" (174 : Nat) ({ cls := "BranchingStoryLaw", name := "choice", desc := "(LBranchingStory;I[J)I" } : Jvm.MethodName)) ∈ lw_tbl := in_tb 966 (by decide +kernel)
theorem wt_967 : (Jvm.Cond.static ({ cls := "BranchingStoryLaw", name := "choice", desc := "(LBranchingStory;I[J)I" } : Jvm.MethodName)) ∈ lw_tbl := in_tb 967 (by decide +kernel)
theorem wt_968 : (Jvm.Cond.codeWith ({ cls := "BranchingStoryLaw", name := "choice", desc := "(LBranchingStory;I[J)I" } : Jvm.MethodName) method_13_code (4 : Nat) (Option.some Jvm.ClassFile.FieldType.int) [((0 : Nat), (9 : Nat), (12 : Nat), (27 : Nat))]) ∈ lw_tbl := in_tb 968 (by decide +kernel)
theorem hs_L_174 : HSw RL 174 yL_choice cL_choice 4 [(0, 9, 12, 27)] 3 := ⟨wt_966, wt_967, wt_0, wt_968, by decide, by decide, by decide +kernel⟩
theorem wt_974 : (Jvm.Cond.methodLink "BranchingStoryLaw" (177 : Nat) ({ cls := "BranchingStoryLaw", name := "flag", desc := "(LBranchingStory;I[J)I" } : Jvm.MethodName)) ∈ lw_tbl := in_tb 974 (by decide +kernel)
theorem wt_975 : (Jvm.Cond.static ({ cls := "BranchingStoryLaw", name := "flag", desc := "(LBranchingStory;I[J)I" } : Jvm.MethodName)) ∈ lw_tbl := in_tb 975 (by decide +kernel)
theorem wt_976 : (Jvm.Cond.codeWith ({ cls := "BranchingStoryLaw", name := "flag", desc := "(LBranchingStory;I[J)I" } : Jvm.MethodName) method_14_code (4 : Nat) (Option.some Jvm.ClassFile.FieldType.int) [((0 : Nat), (9 : Nat), (12 : Nat), (13 : Nat))]) ∈ lw_tbl := in_tb 976 (by decide +kernel)
theorem hs_L_177 : HSw RL 177 yL_flag cL_flag 4 [(0, 9, 12, 13)] 3 := ⟨wt_974, wt_975, wt_0, wt_976, by decide, by decide, by decide +kernel⟩
theorem wt_985 : (Jvm.Cond.methodLink "BranchingStoryLaw" (180 : Nat) ({ cls := "BranchingStoryLaw", name := "meter", desc := "(LBranchingStory;I[J)I" } : Jvm.MethodName)) ∈ lw_tbl := in_tb 985 (by decide +kernel)
theorem wt_986 : (Jvm.Cond.static ({ cls := "BranchingStoryLaw", name := "meter", desc := "(LBranchingStory;I[J)I" } : Jvm.MethodName)) ∈ lw_tbl := in_tb 986 (by decide +kernel)
theorem wt_987 : (Jvm.Cond.codeWith ({ cls := "BranchingStoryLaw", name := "meter", desc := "(LBranchingStory;I[J)I" } : Jvm.MethodName) method_15_code (4 : Nat) (Option.some Jvm.ClassFile.FieldType.int) [((0 : Nat), (9 : Nat), (12 : Nat), (13 : Nat))]) ∈ lw_tbl := in_tb 987 (by decide +kernel)
theorem hs_L_180 : HSw RL 180 yL_meter cL_meter 4 [(0, 9, 12, 13)] 3 := ⟨wt_985, wt_986, wt_0, wt_987, by decide, by decide, by decide +kernel⟩
theorem wt_997 : (Jvm.Cond.methodLink "BranchingStoryLaw" (187 : Nat) ({ cls := "BranchingStoryLaw", name := "line", desc := "(LBranchingStory;I[J)I" } : Jvm.MethodName)) ∈ lw_tbl := in_tb 997 (by decide +kernel)
theorem wt_998 : (Jvm.Cond.static ({ cls := "BranchingStoryLaw", name := "line", desc := "(LBranchingStory;I[J)I" } : Jvm.MethodName)) ∈ lw_tbl := in_tb 998 (by decide +kernel)
theorem wt_999 : (Jvm.Cond.codeWith ({ cls := "BranchingStoryLaw", name := "line", desc := "(LBranchingStory;I[J)I" } : Jvm.MethodName) method_16_code (4 : Nat) (Option.some Jvm.ClassFile.FieldType.int) [((0 : Nat), (9 : Nat), (12 : Nat), (13 : Nat))]) ∈ lw_tbl := in_tb 999 (by decide +kernel)
theorem hs_L_187 : HSw RL 187 yL_line cL_line 4 [(0, 9, 12, 13)] 3 := ⟨wt_997, wt_998, wt_0, wt_999, by decide, by decide, by decide +kernel⟩
theorem wt_1009 : (Jvm.Cond.methodLink "BranchingStoryLaw" (190 : Nat) ({ cls := "BranchingStoryLaw", name := "explore", desc := "(LBranchingStory;I[J)I" } : Jvm.MethodName)) ∈ lw_tbl := in_tb 1009 (by decide +kernel)
theorem wt_1010 : (Jvm.Cond.static ({ cls := "BranchingStoryLaw", name := "explore", desc := "(LBranchingStory;I[J)I" } : Jvm.MethodName)) ∈ lw_tbl := in_tb 1010 (by decide +kernel)
theorem wt_1011 : (Jvm.Cond.codeWith ({ cls := "BranchingStoryLaw", name := "explore", desc := "(LBranchingStory;I[J)I" } : Jvm.MethodName) method_17_code (4 : Nat) (Option.some Jvm.ClassFile.FieldType.int) [((0 : Nat), (9 : Nat), (12 : Nat), (13 : Nat)), ((0 : Nat), (9 : Nat), (15 : Nat), (15 : Nat))]) ∈ lw_tbl := in_tb 1011 (by decide +kernel)
theorem hs_L_190 : HSw RL 190 yL_explore cL_explore 4 [(0, 9, 12, 13), (0, 9, 15, 15)] 3 := ⟨wt_1009, wt_1010, wt_0, wt_1011, by decide, by decide, by decide +kernel⟩
theorem wt_1049 : (Jvm.Cond.methodLink "BranchingStoryLaw" (193 : Nat) ({ cls := "BranchingStoryLaw", name := "isComplete", desc := "(LBranchingStory;[J)I" } : Jvm.MethodName)) ∈ lw_tbl := in_tb 1049 (by decide +kernel)
theorem wt_1050 : (Jvm.Cond.static ({ cls := "BranchingStoryLaw", name := "isComplete", desc := "(LBranchingStory;[J)I" } : Jvm.MethodName)) ∈ lw_tbl := in_tb 1050 (by decide +kernel)
theorem wt_1051 : (Jvm.Cond.codeWith ({ cls := "BranchingStoryLaw", name := "isComplete", desc := "(LBranchingStory;[J)I" } : Jvm.MethodName) method_18_code (3 : Nat) (Option.some Jvm.ClassFile.FieldType.int) [((0 : Nat), (15 : Nat), (18 : Nat), (15 : Nat))]) ∈ lw_tbl := in_tb 1051 (by decide +kernel)
theorem hs_L_193 : HSw RL 193 yL_isComplete cL_isComplete 3 [(0, 15, 18, 15)] 2 := ⟨wt_1049, wt_1050, wt_0, wt_1051, by decide, by decide, by decide +kernel⟩
theorem wt_1061 : (Jvm.Cond.methodLink "BranchingStoryLaw" (196 : Nat) ({ cls := "BranchingStoryLaw", name := "wayLength", desc := "(LBranchingStory;I[J)I" } : Jvm.MethodName)) ∈ lw_tbl := in_tb 1061 (by decide +kernel)
theorem wt_1062 : (Jvm.Cond.static ({ cls := "BranchingStoryLaw", name := "wayLength", desc := "(LBranchingStory;I[J)I" } : Jvm.MethodName)) ∈ lw_tbl := in_tb 1062 (by decide +kernel)
theorem wt_1063 : (Jvm.Cond.codeWith ({ cls := "BranchingStoryLaw", name := "wayLength", desc := "(LBranchingStory;I[J)I" } : Jvm.MethodName) method_19_code (4 : Nat) (Option.some Jvm.ClassFile.FieldType.int) [((0 : Nat), (9 : Nat), (12 : Nat), (13 : Nat)), ((0 : Nat), (9 : Nat), (15 : Nat), (15 : Nat))]) ∈ lw_tbl := in_tb 1063 (by decide +kernel)
theorem hs_L_196 : HSw RL 196 yL_wayLength cL_wayLength 4 [(0, 9, 12, 13), (0, 9, 15, 15)] 3 := ⟨wt_1061, wt_1062, wt_0, wt_1063, by decide, by decide, by decide +kernel⟩
theorem wt_1072 : (Jvm.Cond.methodLink "BranchingStoryLaw" (199 : Nat) ({ cls := "BranchingStoryLaw", name := "way", desc := "(LBranchingStory;II[J)I" } : Jvm.MethodName)) ∈ lw_tbl := in_tb 1072 (by decide +kernel)
theorem wt_1073 : (Jvm.Cond.static ({ cls := "BranchingStoryLaw", name := "way", desc := "(LBranchingStory;II[J)I" } : Jvm.MethodName)) ∈ lw_tbl := in_tb 1073 (by decide +kernel)
theorem wt_1074 : (Jvm.Cond.codeWith ({ cls := "BranchingStoryLaw", name := "way", desc := "(LBranchingStory;II[J)I" } : Jvm.MethodName) method_20_code (5 : Nat) (Option.some Jvm.ClassFile.FieldType.int) [((0 : Nat), (10 : Nat), (13 : Nat), (13 : Nat)), ((0 : Nat), (10 : Nat), (17 : Nat), (15 : Nat)), ((0 : Nat), (10 : Nat), (21 : Nat), (27 : Nat))]) ∈ lw_tbl := in_tb 1074 (by decide +kernel)
theorem hs_L_199 : HSw RL 199 yL_way cL_way 5 [(0, 10, 13, 13), (0, 10, 17, 15), (0, 10, 21, 27)] 4 := ⟨wt_1072, wt_1073, wt_0, wt_1074, by decide, by decide, by decide +kernel⟩
theorem wt_1084 : (Jvm.Cond.methodLink "BranchingStoryLaw" (203 : Nat) ({ cls := "BranchingStoryLaw", name := "outcomes", desc := "(LBranchingStory;I[J)I" } : Jvm.MethodName)) ∈ lw_tbl := in_tb 1084 (by decide +kernel)
theorem wt_1085 : (Jvm.Cond.static ({ cls := "BranchingStoryLaw", name := "outcomes", desc := "(LBranchingStory;I[J)I" } : Jvm.MethodName)) ∈ lw_tbl := in_tb 1085 (by decide +kernel)
theorem wt_1086 : (Jvm.Cond.codeWith ({ cls := "BranchingStoryLaw", name := "outcomes", desc := "(LBranchingStory;I[J)I" } : Jvm.MethodName) method_21_code (4 : Nat) (Option.some Jvm.ClassFile.FieldType.int) [((0 : Nat), (9 : Nat), (12 : Nat), (13 : Nat)), ((0 : Nat), (9 : Nat), (15 : Nat), (15 : Nat))]) ∈ lw_tbl := in_tb 1086 (by decide +kernel)
theorem hs_L_203 : HSw RL 203 yL_outcomes cL_outcomes 4 [(0, 9, 12, 13), (0, 9, 15, 15)] 3 := ⟨wt_1084, wt_1085, wt_0, wt_1086, by decide, by decide, by decide +kernel⟩
theorem wt_1091 : (Jvm.Cond.methodLink "BranchingStoryLaw" (206 : Nat) ({ cls := "BranchingStoryLaw", name := "occurred", desc := "(LBranchingStory;II[J)I" } : Jvm.MethodName)) ∈ lw_tbl := in_tb 1091 (by decide +kernel)
theorem wt_1092 : (Jvm.Cond.static ({ cls := "BranchingStoryLaw", name := "occurred", desc := "(LBranchingStory;II[J)I" } : Jvm.MethodName)) ∈ lw_tbl := in_tb 1092 (by decide +kernel)
theorem wt_1093 : (Jvm.Cond.codeWith ({ cls := "BranchingStoryLaw", name := "occurred", desc := "(LBranchingStory;II[J)I" } : Jvm.MethodName) method_22_code (5 : Nat) (Option.some Jvm.ClassFile.FieldType.int) [((0 : Nat), (17 : Nat), (20 : Nat), (13 : Nat)), ((0 : Nat), (17 : Nat), (24 : Nat), (15 : Nat)), ((0 : Nat), (17 : Nat), (28 : Nat), (27 : Nat))]) ∈ lw_tbl := in_tb 1093 (by decide +kernel)
theorem hs_L_206 : HSw RL 206 yL_occurred cL_occurred 5 [(0, 17, 20, 13), (0, 17, 24, 15), (0, 17, 28, 27)] 4 := ⟨wt_1091, wt_1092, wt_0, wt_1093, by decide, by decide, by decide +kernel⟩
theorem wt_1102 : (Jvm.Cond.methodLink "BranchingStoryLaw" (209 : Nat) ({ cls := "BranchingStoryLaw", name := "analyze", desc := "(LBranchingStory;[J)I" } : Jvm.MethodName)) ∈ lw_tbl := in_tb 1102 (by decide +kernel)
theorem wt_1103 : (Jvm.Cond.static ({ cls := "BranchingStoryLaw", name := "analyze", desc := "(LBranchingStory;[J)I" } : Jvm.MethodName)) ∈ lw_tbl := in_tb 1103 (by decide +kernel)
theorem wt_1104 : (Jvm.Cond.codeWith ({ cls := "BranchingStoryLaw", name := "analyze", desc := "(LBranchingStory;[J)I" } : Jvm.MethodName) method_23_code (3 : Nat) (Option.some Jvm.ClassFile.FieldType.int) [((0 : Nat), (8 : Nat), (11 : Nat), (15 : Nat))]) ∈ lw_tbl := in_tb 1104 (by decide +kernel)
theorem hs_L_209 : HSw RL 209 yL_analyze cL_analyze 3 [(0, 8, 11, 15)] 2 := ⟨wt_1102, wt_1103, wt_0, wt_1104, by decide, by decide, by decide +kernel⟩
theorem wt_1239 : (Jvm.Cond.methodLink "BranchingStoryLaw" (212 : Nat) ({ cls := "BranchingStoryLaw", name := "isReached", desc := "(LBranchingStory;II[J)I" } : Jvm.MethodName)) ∈ lw_tbl := in_tb 1239 (by decide +kernel)
theorem wt_1240 : (Jvm.Cond.static ({ cls := "BranchingStoryLaw", name := "isReached", desc := "(LBranchingStory;II[J)I" } : Jvm.MethodName)) ∈ lw_tbl := in_tb 1240 (by decide +kernel)
theorem wt_1241 : (Jvm.Cond.codeWith ({ cls := "BranchingStoryLaw", name := "isReached", desc := "(LBranchingStory;II[J)I" } : Jvm.MethodName) method_24_code (5 : Nat) (Option.some Jvm.ClassFile.FieldType.int) [((0 : Nat), (17 : Nat), (20 : Nat), (13 : Nat)), ((0 : Nat), (17 : Nat), (24 : Nat), (15 : Nat)), ((0 : Nat), (17 : Nat), (28 : Nat), (27 : Nat))]) ∈ lw_tbl := in_tb 1241 (by decide +kernel)
theorem hs_L_212 : HSw RL 212 yL_isReached cL_isReached 5 [(0, 17, 20, 13), (0, 17, 24, 15), (0, 17, 28, 27)] 4 := ⟨wt_1239, wt_1240, wt_0, wt_1241, by decide, by decide, by decide +kernel⟩
theorem wt_1251 : (Jvm.Cond.methodLink "BranchingStoryLaw" (215 : Nat) ({ cls := "BranchingStoryLaw", name := "lowest", desc := "(LBranchingStory;II[J)I" } : Jvm.MethodName)) ∈ lw_tbl := in_tb 1251 (by decide +kernel)
theorem wt_1252 : (Jvm.Cond.static ({ cls := "BranchingStoryLaw", name := "lowest", desc := "(LBranchingStory;II[J)I" } : Jvm.MethodName)) ∈ lw_tbl := in_tb 1252 (by decide +kernel)
theorem wt_1253 : (Jvm.Cond.codeWith ({ cls := "BranchingStoryLaw", name := "lowest", desc := "(LBranchingStory;II[J)I" } : Jvm.MethodName) method_25_code (5 : Nat) (Option.some Jvm.ClassFile.FieldType.int) [((0 : Nat), (10 : Nat), (13 : Nat), (13 : Nat)), ((0 : Nat), (10 : Nat), (17 : Nat), (15 : Nat)), ((0 : Nat), (10 : Nat), (21 : Nat), (27 : Nat))]) ∈ lw_tbl := in_tb 1253 (by decide +kernel)
theorem hs_L_215 : HSw RL 215 yL_lowest cL_lowest 5 [(0, 10, 13, 13), (0, 10, 17, 15), (0, 10, 21, 27)] 4 := ⟨wt_1251, wt_1252, wt_0, wt_1253, by decide, by decide, by decide +kernel⟩
theorem wt_1259 : (Jvm.Cond.methodLink "BranchingStoryLaw" (218 : Nat) ({ cls := "BranchingStoryLaw", name := "greatest", desc := "(LBranchingStory;II[J)I" } : Jvm.MethodName)) ∈ lw_tbl := in_tb 1259 (by decide +kernel)
theorem wt_1260 : (Jvm.Cond.static ({ cls := "BranchingStoryLaw", name := "greatest", desc := "(LBranchingStory;II[J)I" } : Jvm.MethodName)) ∈ lw_tbl := in_tb 1260 (by decide +kernel)
theorem wt_1261 : (Jvm.Cond.codeWith ({ cls := "BranchingStoryLaw", name := "greatest", desc := "(LBranchingStory;II[J)I" } : Jvm.MethodName) method_26_code (5 : Nat) (Option.some Jvm.ClassFile.FieldType.int) [((0 : Nat), (10 : Nat), (13 : Nat), (13 : Nat)), ((0 : Nat), (10 : Nat), (17 : Nat), (15 : Nat)), ((0 : Nat), (10 : Nat), (21 : Nat), (27 : Nat))]) ∈ lw_tbl := in_tb 1261 (by decide +kernel)
theorem hs_L_218 : HSw RL 218 yL_greatest cL_greatest 5 [(0, 10, 13, 13), (0, 10, 17, 15), (0, 10, 21, 27)] 4 := ⟨wt_1259, wt_1260, wt_0, wt_1261, by decide, by decide, by decide +kernel⟩
theorem wt_1267 : (Jvm.Cond.methodLink "BranchingStoryLaw" (221 : Nat) ({ cls := "BranchingStoryLaw", name := "values", desc := "(LBranchingStory;II[J)I" } : Jvm.MethodName)) ∈ lw_tbl := in_tb 1267 (by decide +kernel)
theorem wt_1268 : (Jvm.Cond.static ({ cls := "BranchingStoryLaw", name := "values", desc := "(LBranchingStory;II[J)I" } : Jvm.MethodName)) ∈ lw_tbl := in_tb 1268 (by decide +kernel)
theorem wt_1269 : (Jvm.Cond.codeWith ({ cls := "BranchingStoryLaw", name := "values", desc := "(LBranchingStory;II[J)I" } : Jvm.MethodName) method_27_code (5 : Nat) (Option.some Jvm.ClassFile.FieldType.int) [((0 : Nat), (10 : Nat), (13 : Nat), (13 : Nat)), ((0 : Nat), (10 : Nat), (17 : Nat), (15 : Nat)), ((0 : Nat), (10 : Nat), (21 : Nat), (27 : Nat))]) ∈ lw_tbl := in_tb 1269 (by decide +kernel)
theorem hs_L_221 : HSw RL 221 yL_values cL_values 5 [(0, 10, 13, 13), (0, 10, 17, 15), (0, 10, 21, 27)] 4 := ⟨wt_1267, wt_1268, wt_0, wt_1269, by decide, by decide, by decide +kernel⟩
theorem wt_1277 : (Jvm.Cond.methodLink "BranchingStoryLaw" (224 : Nat) ({ cls := "BranchingStoryLaw", name := "hubs", desc := "(LBranchingStory;I[J)I" } : Jvm.MethodName)) ∈ lw_tbl := in_tb 1277 (by decide +kernel)
theorem wt_1278 : (Jvm.Cond.static ({ cls := "BranchingStoryLaw", name := "hubs", desc := "(LBranchingStory;I[J)I" } : Jvm.MethodName)) ∈ lw_tbl := in_tb 1278 (by decide +kernel)
theorem wt_1279 : (Jvm.Cond.codeWith ({ cls := "BranchingStoryLaw", name := "hubs", desc := "(LBranchingStory;I[J)I" } : Jvm.MethodName) method_28_code (4 : Nat) (Option.some Jvm.ClassFile.FieldType.int) [((0 : Nat), (9 : Nat), (12 : Nat), (15 : Nat)), ((0 : Nat), (9 : Nat), (15 : Nat), (27 : Nat))]) ∈ lw_tbl := in_tb 1279 (by decide +kernel)
theorem hs_L_224 : HSw RL 224 yL_hubs cL_hubs 4 [(0, 9, 12, 15), (0, 9, 15, 27)] 3 := ⟨wt_1277, wt_1278, wt_0, wt_1279, by decide, by decide, by decide +kernel⟩
theorem wt_1285 : (Jvm.Cond.methodLink "BranchingStoryLaw" (227 : Nat) ({ cls := "BranchingStoryLaw", name := "verdict", desc := "(LBranchingStory;I[J)I" } : Jvm.MethodName)) ∈ lw_tbl := in_tb 1285 (by decide +kernel)
theorem wt_1286 : (Jvm.Cond.static ({ cls := "BranchingStoryLaw", name := "verdict", desc := "(LBranchingStory;I[J)I" } : Jvm.MethodName)) ∈ lw_tbl := in_tb 1286 (by decide +kernel)
theorem wt_1287 : (Jvm.Cond.codeWith ({ cls := "BranchingStoryLaw", name := "verdict", desc := "(LBranchingStory;I[J)I" } : Jvm.MethodName) method_29_code (4 : Nat) (Option.some Jvm.ClassFile.FieldType.int) [((0 : Nat), (9 : Nat), (12 : Nat), (15 : Nat)), ((0 : Nat), (9 : Nat), (15 : Nat), (27 : Nat))]) ∈ lw_tbl := in_tb 1287 (by decide +kernel)
theorem hs_L_227 : HSw RL 227 yL_verdict cL_verdict 4 [(0, 9, 12, 15), (0, 9, 15, 27)] 3 := ⟨wt_1285, wt_1286, wt_0, wt_1287, by decide, by decide, by decide +kernel⟩
theorem wt_1293 : (Jvm.Cond.methodLink "BranchingStoryLaw" (230 : Nat) ({ cls := "BranchingStoryLaw", name := "possible", desc := "(LBranchingStory;I[J)I" } : Jvm.MethodName)) ∈ lw_tbl := in_tb 1293 (by decide +kernel)
theorem wt_1294 : (Jvm.Cond.static ({ cls := "BranchingStoryLaw", name := "possible", desc := "(LBranchingStory;I[J)I" } : Jvm.MethodName)) ∈ lw_tbl := in_tb 1294 (by decide +kernel)
theorem wt_1295 : (Jvm.Cond.codeWith ({ cls := "BranchingStoryLaw", name := "possible", desc := "(LBranchingStory;I[J)I" } : Jvm.MethodName) method_30_code (4 : Nat) (Option.some Jvm.ClassFile.FieldType.int) [((0 : Nat), (9 : Nat), (12 : Nat), (13 : Nat)), ((0 : Nat), (9 : Nat), (15 : Nat), (15 : Nat))]) ∈ lw_tbl := in_tb 1295 (by decide +kernel)
theorem hs_L_230 : HSw RL 230 yL_possible cL_possible 4 [(0, 9, 12, 13), (0, 9, 15, 15)] 3 := ⟨wt_1293, wt_1294, wt_0, wt_1295, by decide, by decide, by decide +kernel⟩
def f_W_0 (xs : Nat → Int32) (i : Int) (σ : St) (k : St → Prop) : Prop :=
  f_L_type (xs (i + 1).toNat).toInt σ (fun σ1 k1 => f_X10_type (xs (i + 1).toNat).toInt (ssub σ1 72) (fun u1 r1 => ∀ σ2 : St, σ2 = mM σ1 u1 → f_X10_thrown (ssub σ2 72) (fun u2 r2 => ∀ σ3 : St, σ3 = mM σ2 u2 → inR r2 ∧ inR k1 ∧ ((r2 = k1 → inR k1 ∧ ((¬ k1 = 0 → k σ3) ∧ (k1 = 0 → inR (lcmp64 (σ3 117 0) (i2l64 r1)) ∧ (((lcmp64 (σ3 117 0) (i2l64 r1)) = 0 → k σ3) ∧ (¬ (lcmp64 (σ3 117 0) (i2l64 r1)) = 0 → False))))) ∧ (¬ r2 = k1 → False)))))
set_option maxRecDepth 100000 in
set_option maxHeartbeats 4000000 in
theorem w_W_0 {X : Cx} {Y : Cy} {Q : State → Prop} {kc ks b0 L : Nat} {xs : Nat → Int32} {i : Int} {σ : St} {k : St → Prop} (ol : OL X Y b0 L xs) (hi : 0 ≤ i) (hi2 : i + 2 < L) (hb : kc + 1 ≤ 1165 ∧ ks + 6 ≤ 30866) (hk : ∀ σ', k σ' → Lq X Y KW 7 Q (kc + 1) (ks + 6) σ' 1908 [(0, .inr (.inr 1000)), (1, .inr (.inr 0)), (2, .inr (.inr 72)), (3, .inr (.inr 117)), (4, .inl i)] []) (h : f_W_0 xs i σ k) : Lq X Y KW 7 Q kc ks σ 196 [(0, .inr (.inr 1000)), (1, .inr (.inr 0)), (2, .inr (.inr 72)), (3, .inr (.inr 117)), (4, .inl i)] [] := by
  have ok : Ok X Y KW cL_law 7 RL room_1 ret := ol.1
  have hL := ol.2.2.2.2.2.2.2
  unfold f_W_0 at h
  refine l_aload_n ok dL_law_196 1 rfl ?_
  refine l_aload_n ok dL_law_197 0 rfl ?_
  refine l_iload ok dL_law_198 4 rfl ?_
  refine l_iconst ok dL_law_200 ?_
  refine l_iadd ok dL_law_201 ?_
  refine l_sld ok ol.2.2.2.1 ol.2.2.2.2.1 ol.2.2.2.2.2.1 ol.2.2.2.2.2.2.1 (by omega) (by omega) (by omega) dL_law_202 ?_
  refine l_aload_n ok dL_law_203 3 rfl ?_
  refine l_help (st := []) ok ol.2.2.1 hs_L_109 (c_L_type X.2.1 ol.2.1 Y ok.2.2.2.2.2.2.2.2 h) ⟨rfl, rfl, Nat.le_of_ble_eq_true rfl, Nat.le_of_ble_eq_true rfl⟩ hb rfl rfl (Nat.le_of_ble_eq_true rfl) dL_law_204 (fun σ1 k1 h => ?_)
  refine l_istore (lv' := [(5, .inl k1), (0, .inr (.inr 1000)), (1, .inr (.inr 0)), (2, .inr (.inr 72)), (3, .inr (.inr 117)), (4, .inl i)]) ok dL_law_207 (by decide) rfl ?_
  refine l_aload_n ok dL_law_209 3 rfl ?_
  refine l_aload_n ok dL_law_210 1 rfl ?_
  refine l_iload ok dL_law_211 5 rfl ?_
  refine l_iconst ok dL_law_213 ?_
  refine l_iadd ok dL_law_214 ?_
  refine l_sld ok ol.2.2.2.1 ol.2.2.2.2.1 ol.2.2.2.2.2.1 ol.2.2.2.2.2.2.1 (by omega) (by omega) (by omega) dL_law_215 ?_
  refine l_callVI (st := []) ok ⟨by show _ ≤ 1165; omega, by show _ ≤ 30866; omega⟩ cs_L_114 kW_72 rfl (fr_I sub_M (inj_ok ok) (A_ok ok sub_M) (c_X10_type X.2.1 (Ysub Y 72 KM.length) (Ysub_D sub_M (inj_ok ok)) h)) ⟨rfl, rfl, Nat.le_of_ble_eq_true rfl, Nat.le_of_ble_eq_true rfl⟩ rfl rfl (Nat.le_of_ble_eq_true rfl) dL_law_216 (fun σ2 r1 h => ?_)
  obtain ⟨u1, h, hu1⟩ := h
  have h := h σ2 hu1
  refine l_istore (lv' := [(6, .inl r1), (5, .inl k1), (0, .inr (.inr 1000)), (1, .inr (.inr 0)), (2, .inr (.inr 72)), (3, .inr (.inr 117)), (4, .inl i)]) ok dL_law_219 (by decide) rfl ?_
  refine l_aload_n ok dL_law_221 4 rfl ?_
  refine l_callVI (st := []) ok ⟨by show _ ≤ 1165; omega, by show _ ≤ 30866; omega⟩ cs_L_115 kW_72 rfl (fr_I sub_M (inj_ok ok) (A_ok ok sub_M) (c_X10_thrown X.2.1 (Ysub Y 72 KM.length) (Ysub_D sub_M (inj_ok ok)) h)) ⟨rfl, rfl, Nat.le_of_ble_eq_true rfl, Nat.le_of_ble_eq_true rfl⟩ rfl rfl (Nat.le_of_ble_eq_true rfl) dL_law_222 (fun σ3 r2 h => ?_)
  obtain ⟨u2, h, hu2⟩ := h
  have h := h σ3 hu2
  refine l_iload ok dL_law_225 1 rfl ?_
  obtain ⟨g1, g2, hA3a, hA3b⟩ := h
  refine l_icmp_eq (tgt := 232) ok dL_law_227 (by decide) g1 g2 (fun c3 => ?_) (fun c3 => ?_)
  · have h := hA3a c3
    refine l_iload ok dL_law_232 1 rfl ?_
    obtain ⟨g3, hA2a, hA2b⟩ := h
    refine l_if_ne (tgt := 249) ok dL_law_234 (by decide) g3 (fun c2 => ?_) (fun c2 => ?_)
    · have h := hA2a c2
      refine l_goto (tgt := 1908) ok dL_law_249 (by decide) ?_
      refine l_sub [2, 3, 4, 5, 6] rfl ?_
      exact hk σ3 h
    · have h := hA2b c2
      refine l_aload_n ok dL_law_237 5 rfl ?_
      refine l_iconst ok dL_law_238 ?_
      refine l_lald ok kW_ok kW_117 (by decide) (by decide) dL_law_239 ?_
      refine l_iload ok dL_law_240 0 rfl ?_
      refine l_i2l ok dL_law_242 ?_
      refine l_lcmp ok dL_law_243 ?_
      obtain ⟨g4, hA1a, hA1b⟩ := h
      refine l_if_eq (tgt := 249) ok dL_law_244 (by decide) g4 (fun c1 => ?_) (fun c1 => ?_)
      · have h := hA1a c1
        refine l_goto (tgt := 1908) ok dL_law_249 (by decide) ?_
        refine l_sub [2, 3, 4, 5, 6] rfl ?_
        exact hk σ3 h
      · have h := hA1b c1
        exact h.elim
  · have h := hA3b c3
    exact h.elim
def f_W_1 (xs : Nat → Int32) (i : Int) (σ : St) (k : St → Prop) : Prop :=
  f_X9_clearText (ssub σ 0) (fun u1 r1 => ∀ σ1 : St, σ1 = mC σ u1 → f_X10_clearText (ssub σ1 72) (fun u2 r2 => ∀ σ2 : St, σ2 = mM σ1 u2 → inR r1 ∧ inR r2 ∧ ((r1 = r2 → k σ2) ∧ (¬ r1 = r2 → False))))
set_option maxRecDepth 100000 in
set_option maxHeartbeats 4000000 in
theorem w_W_1 {X : Cx} {Y : Cy} {Q : State → Prop} {kc ks b0 L : Nat} {xs : Nat → Int32} {i : Int} {σ : St} {k : St → Prop} (ol : OL X Y b0 L xs) (hi : 0 ≤ i) (hi2 : i + 2 < L) (hb : kc + 1 ≤ 1165 ∧ ks + 6 ≤ 30866) (hk : ∀ σ', k σ' → Lq X Y KW 7 Q (kc + 1) (ks + 6) σ' 1908 [(0, .inr (.inr 1000)), (1, .inr (.inr 0)), (2, .inr (.inr 72)), (3, .inr (.inr 117)), (4, .inl i)] []) (h : f_W_1 xs i σ k) : Lq X Y KW 7 Q kc ks σ 252 [(0, .inr (.inr 1000)), (1, .inr (.inr 0)), (2, .inr (.inr 72)), (3, .inr (.inr 117)), (4, .inl i)] [] := by
  have ok : Ok X Y KW cL_law 7 RL room_1 ret := ol.1
  have hL := ol.2.2.2.2.2.2.2
  unfold f_W_1 at h
  refine l_aload_n ok dL_law_252 1 rfl ?_
  refine l_callVI (st := []) ok ⟨by show _ ≤ 1165; omega, by show _ ≤ 30866; omega⟩ cs_L_118 kW_0 rfl (fr_I sub_C (inj_ok ok) (A_ok ok sub_C) (c_X9_clearText X.2.1 (Ysub Y 0 KC.length) (Ysub_D sub_C (inj_ok ok)) h)) ⟨rfl, rfl, Nat.le_of_ble_eq_true rfl, Nat.le_of_ble_eq_true rfl⟩ rfl rfl (Nat.le_of_ble_eq_true rfl) dL_law_253 (fun σ1 r1 h => ?_)
  obtain ⟨u1, h, hu1⟩ := h
  have h := h σ1 hu1
  refine l_aload_n ok dL_law_256 2 rfl ?_
  refine l_callVI (st := [.inl r1]) ok ⟨by show _ ≤ 1165; omega, by show _ ≤ 30866; omega⟩ cs_L_121 kW_72 rfl (fr_I sub_M (inj_ok ok) (A_ok ok sub_M) (c_X10_clearText X.2.1 (Ysub Y 72 KM.length) (Ysub_D sub_M (inj_ok ok)) h)) ⟨rfl, rfl, Nat.le_of_ble_eq_true rfl, Nat.le_of_ble_eq_true rfl⟩ rfl rfl (Nat.le_of_ble_eq_true rfl) dL_law_257 (fun σ2 r2 h => ?_)
  obtain ⟨u2, h, hu2⟩ := h
  have h := h σ2 hu2
  obtain ⟨g1, g2, hA1a, hA1b⟩ := h
  refine l_icmp_eq (tgt := 1908) ok dL_law_260 (by decide) g1 g2 (fun c1 => ?_) (fun c1 => ?_)
  · have h := hA1a c1
    refine l_widen (Nat.le_succ kc) (Nat.le_add_right ks 6) ?_
    exact hk σ2 h
  · have h := hA1b c1
    exact h.elim
def f_W_2 (xs : Nat → Int32) (i : Int) (σ : St) (k : St → Prop) : Prop :=
  f_X9_fault (ssub σ 0) (fun u1 r1 => ∀ σ1 : St, σ1 = mC σ u1 → f_X10_fault (ssub σ1 72) (fun u2 r2 => ∀ σ2 : St, σ2 = mM σ1 u2 → inR r1 ∧ inR r2 ∧ ((r1 = r2 → k σ2) ∧ (¬ r1 = r2 → False))))
set_option maxRecDepth 100000 in
set_option maxHeartbeats 4000000 in
theorem w_W_2 {X : Cx} {Y : Cy} {Q : State → Prop} {kc ks b0 L : Nat} {xs : Nat → Int32} {i : Int} {σ : St} {k : St → Prop} (ol : OL X Y b0 L xs) (hi : 0 ≤ i) (hi2 : i + 2 < L) (hb : kc + 1 ≤ 1165 ∧ ks + 6 ≤ 30866) (hk : ∀ σ', k σ' → Lq X Y KW 7 Q (kc + 1) (ks + 6) σ' 1908 [(0, .inr (.inr 1000)), (1, .inr (.inr 0)), (2, .inr (.inr 72)), (3, .inr (.inr 117)), (4, .inl i)] []) (h : f_W_2 xs i σ k) : Lq X Y KW 7 Q kc ks σ 265 [(0, .inr (.inr 1000)), (1, .inr (.inr 0)), (2, .inr (.inr 72)), (3, .inr (.inr 117)), (4, .inl i)] [] := by
  have ok : Ok X Y KW cL_law 7 RL room_1 ret := ol.1
  have hL := ol.2.2.2.2.2.2.2
  unfold f_W_2 at h
  refine l_aload_n ok dL_law_265 1 rfl ?_
  refine l_callVI (st := []) ok ⟨by show _ ≤ 1165; omega, by show _ ≤ 30866; omega⟩ cs_L_122 kW_0 rfl (fr_I sub_C (inj_ok ok) (A_ok ok sub_C) (c_X9_fault X.2.1 (Ysub Y 0 KC.length) (Ysub_D sub_C (inj_ok ok)) h)) ⟨rfl, rfl, Nat.le_of_ble_eq_true rfl, Nat.le_of_ble_eq_true rfl⟩ rfl rfl (Nat.le_of_ble_eq_true rfl) dL_law_266 (fun σ1 r1 h => ?_)
  obtain ⟨u1, h, hu1⟩ := h
  have h := h σ1 hu1
  refine l_aload_n ok dL_law_269 2 rfl ?_
  refine l_callVI (st := [.inl r1]) ok ⟨by show _ ≤ 1165; omega, by show _ ≤ 30866; omega⟩ cs_L_125 kW_72 rfl (fr_I sub_M (inj_ok ok) (A_ok ok sub_M) (c_X10_fault X.2.1 (Ysub Y 72 KM.length) (Ysub_D sub_M (inj_ok ok)) h)) ⟨rfl, rfl, Nat.le_of_ble_eq_true rfl, Nat.le_of_ble_eq_true rfl⟩ rfl rfl (Nat.le_of_ble_eq_true rfl) dL_law_270 (fun σ2 r2 h => ?_)
  obtain ⟨u2, h, hu2⟩ := h
  have h := h σ2 hu2
  obtain ⟨g1, g2, hA1a, hA1b⟩ := h
  refine l_icmp_eq (tgt := 1908) ok dL_law_273 (by decide) g1 g2 (fun c1 => ?_) (fun c1 => ?_)
  · have h := hA1a c1
    refine l_widen (Nat.le_succ kc) (Nat.le_add_right ks 6) ?_
    exact hk σ2 h
  · have h := hA1b c1
    exact h.elim
def f_W_3 (xs : Nat → Int32) (i : Int) (σ : St) (k : St → Prop) : Prop :=
  f_L_build σ (fun σ1 k1 => f_X10_build (ssub σ1 72) (fun u1 r1 => ∀ σ2 : St, σ2 = mM σ1 u1 → f_X10_thrown (ssub σ2 72) (fun u2 r2 => ∀ σ3 : St, σ3 = mM σ2 u2 → inR r2 ∧ inR k1 ∧ ((r2 = k1 → inR k1 ∧ ((¬ k1 = 0 → k σ3) ∧ (k1 = 0 → inR (lcmp64 (σ3 117 0) (i2l64 r1)) ∧ (((lcmp64 (σ3 117 0) (i2l64 r1)) = 0 → k σ3) ∧ (¬ (lcmp64 (σ3 117 0) (i2l64 r1)) = 0 → False))))) ∧ (¬ r2 = k1 → False)))))
set_option maxRecDepth 100000 in
set_option maxHeartbeats 4000000 in
theorem w_W_3 {X : Cx} {Y : Cy} {Q : State → Prop} {kc ks b0 L : Nat} {xs : Nat → Int32} {i : Int} {σ : St} {k : St → Prop} (ol : OL X Y b0 L xs) (hi : 0 ≤ i) (hi2 : i + 2 < L) (hb : kc + 1 ≤ 1165 ∧ ks + 6 ≤ 30866) (hk : ∀ σ', k σ' → Lq X Y KW 7 Q (kc + 1) (ks + 6) σ' 1908 [(0, .inr (.inr 1000)), (1, .inr (.inr 0)), (2, .inr (.inr 72)), (3, .inr (.inr 117)), (4, .inl i)] []) (h : f_W_3 xs i σ k) : Lq X Y KW 7 Q kc ks σ 278 [(0, .inr (.inr 1000)), (1, .inr (.inr 0)), (2, .inr (.inr 72)), (3, .inr (.inr 117)), (4, .inl i)] [] := by
  have ok : Ok X Y KW cL_law 7 RL room_1 ret := ol.1
  have hL := ol.2.2.2.2.2.2.2
  unfold f_W_3 at h
  refine l_aload_n ok dL_law_278 1 rfl ?_
  refine l_aload_n ok dL_law_279 3 rfl ?_
  refine l_help (st := []) ok ol.2.2.1 hs_L_126 (c_L_build X.2.1 ol.2.1 Y ok.2.2.2.2.2.2.2.2 h) ⟨rfl, rfl, Nat.le_of_ble_eq_true rfl, Nat.le_of_ble_eq_true rfl⟩ hb rfl rfl (Nat.le_of_ble_eq_true rfl) dL_law_280 (fun σ1 k1 h => ?_)
  refine l_istore (lv' := [(5, .inl k1), (0, .inr (.inr 1000)), (1, .inr (.inr 0)), (2, .inr (.inr 72)), (3, .inr (.inr 117)), (4, .inl i)]) ok dL_law_283 (by decide) rfl ?_
  refine l_aload_n ok dL_law_285 3 rfl ?_
  refine l_callVI (st := []) ok ⟨by show _ ≤ 1165; omega, by show _ ≤ 30866; omega⟩ cs_L_129 kW_72 rfl (fr_I sub_M (inj_ok ok) (A_ok ok sub_M) (c_X10_build X.2.1 (Ysub Y 72 KM.length) (Ysub_D sub_M (inj_ok ok)) h)) ⟨rfl, rfl, Nat.le_of_ble_eq_true rfl, Nat.le_of_ble_eq_true rfl⟩ rfl rfl (Nat.le_of_ble_eq_true rfl) dL_law_286 (fun σ2 r1 h => ?_)
  obtain ⟨u1, h, hu1⟩ := h
  have h := h σ2 hu1
  refine l_istore (lv' := [(6, .inl r1), (5, .inl k1), (0, .inr (.inr 1000)), (1, .inr (.inr 0)), (2, .inr (.inr 72)), (3, .inr (.inr 117)), (4, .inl i)]) ok dL_law_289 (by decide) rfl ?_
  refine l_aload_n ok dL_law_291 4 rfl ?_
  refine l_callVI (st := []) ok ⟨by show _ ≤ 1165; omega, by show _ ≤ 30866; omega⟩ cs_L_115 kW_72 rfl (fr_I sub_M (inj_ok ok) (A_ok ok sub_M) (c_X10_thrown X.2.1 (Ysub Y 72 KM.length) (Ysub_D sub_M (inj_ok ok)) h)) ⟨rfl, rfl, Nat.le_of_ble_eq_true rfl, Nat.le_of_ble_eq_true rfl⟩ rfl rfl (Nat.le_of_ble_eq_true rfl) dL_law_292 (fun σ3 r2 h => ?_)
  obtain ⟨u2, h, hu2⟩ := h
  have h := h σ3 hu2
  refine l_iload ok dL_law_295 1 rfl ?_
  obtain ⟨g1, g2, hA3a, hA3b⟩ := h
  refine l_icmp_eq (tgt := 302) ok dL_law_297 (by decide) g1 g2 (fun c3 => ?_) (fun c3 => ?_)
  · have h := hA3a c3
    refine l_iload ok dL_law_302 1 rfl ?_
    obtain ⟨g3, hA2a, hA2b⟩ := h
    refine l_if_ne (tgt := 319) ok dL_law_304 (by decide) g3 (fun c2 => ?_) (fun c2 => ?_)
    · have h := hA2a c2
      refine l_goto (tgt := 1908) ok dL_law_319 (by decide) ?_
      refine l_sub [2, 3, 4, 5, 6] rfl ?_
      exact hk σ3 h
    · have h := hA2b c2
      refine l_aload_n ok dL_law_307 5 rfl ?_
      refine l_iconst ok dL_law_308 ?_
      refine l_lald ok kW_ok kW_117 (by decide) (by decide) dL_law_309 ?_
      refine l_iload ok dL_law_310 0 rfl ?_
      refine l_i2l ok dL_law_312 ?_
      refine l_lcmp ok dL_law_313 ?_
      obtain ⟨g4, hA1a, hA1b⟩ := h
      refine l_if_eq (tgt := 319) ok dL_law_314 (by decide) g4 (fun c1 => ?_) (fun c1 => ?_)
      · have h := hA1a c1
        refine l_goto (tgt := 1908) ok dL_law_319 (by decide) ?_
        refine l_sub [2, 3, 4, 5, 6] rfl ?_
        exact hk σ3 h
      · have h := hA1b c1
        exact h.elim
  · have h := hA3b c3
    exact h.elim
def f_W_4 (xs : Nat → Int32) (i : Int) (σ : St) (k : St → Prop) : Prop :=
  f_L_count (xs (i + 1).toNat).toInt σ (fun σ1 k1 => f_X10_count (xs (i + 1).toNat).toInt (ssub σ1 72) (fun u1 r1 => ∀ σ2 : St, σ2 = mM σ1 u1 → f_X10_thrown (ssub σ2 72) (fun u2 r2 => ∀ σ3 : St, σ3 = mM σ2 u2 → inR r2 ∧ inR k1 ∧ ((r2 = k1 → inR k1 ∧ ((¬ k1 = 0 → k σ3) ∧ (k1 = 0 → inR (lcmp64 (σ3 117 0) (i2l64 r1)) ∧ (((lcmp64 (σ3 117 0) (i2l64 r1)) = 0 → k σ3) ∧ (¬ (lcmp64 (σ3 117 0) (i2l64 r1)) = 0 → False))))) ∧ (¬ r2 = k1 → False)))))
set_option maxRecDepth 100000 in
set_option maxHeartbeats 4000000 in
theorem w_W_4 {X : Cx} {Y : Cy} {Q : State → Prop} {kc ks b0 L : Nat} {xs : Nat → Int32} {i : Int} {σ : St} {k : St → Prop} (ol : OL X Y b0 L xs) (hi : 0 ≤ i) (hi2 : i + 2 < L) (hb : kc + 1 ≤ 1165 ∧ ks + 6 ≤ 30866) (hk : ∀ σ', k σ' → Lq X Y KW 7 Q (kc + 1) (ks + 6) σ' 1908 [(0, .inr (.inr 1000)), (1, .inr (.inr 0)), (2, .inr (.inr 72)), (3, .inr (.inr 117)), (4, .inl i)] []) (h : f_W_4 xs i σ k) : Lq X Y KW 7 Q kc ks σ 322 [(0, .inr (.inr 1000)), (1, .inr (.inr 0)), (2, .inr (.inr 72)), (3, .inr (.inr 117)), (4, .inl i)] [] := by
  have ok : Ok X Y KW cL_law 7 RL room_1 ret := ol.1
  have hL := ol.2.2.2.2.2.2.2
  unfold f_W_4 at h
  refine l_aload_n ok dL_law_322 1 rfl ?_
  refine l_aload_n ok dL_law_323 0 rfl ?_
  refine l_iload ok dL_law_324 4 rfl ?_
  refine l_iconst ok dL_law_326 ?_
  refine l_iadd ok dL_law_327 ?_
  refine l_sld ok ol.2.2.2.1 ol.2.2.2.2.1 ol.2.2.2.2.2.1 ol.2.2.2.2.2.2.1 (by omega) (by omega) (by omega) dL_law_328 ?_
  refine l_aload_n ok dL_law_329 3 rfl ?_
  refine l_help (st := []) ok ol.2.2.1 hs_L_130 (c_L_count X.2.1 ol.2.1 Y ok.2.2.2.2.2.2.2.2 h) ⟨rfl, rfl, Nat.le_of_ble_eq_true rfl, Nat.le_of_ble_eq_true rfl⟩ hb rfl rfl (Nat.le_of_ble_eq_true rfl) dL_law_330 (fun σ1 k1 h => ?_)
  refine l_istore (lv' := [(5, .inl k1), (0, .inr (.inr 1000)), (1, .inr (.inr 0)), (2, .inr (.inr 72)), (3, .inr (.inr 117)), (4, .inl i)]) ok dL_law_333 (by decide) rfl ?_
  refine l_aload_n ok dL_law_335 3 rfl ?_
  refine l_aload_n ok dL_law_336 1 rfl ?_
  refine l_iload ok dL_law_337 5 rfl ?_
  refine l_iconst ok dL_law_339 ?_
  refine l_iadd ok dL_law_340 ?_
  refine l_sld ok ol.2.2.2.1 ol.2.2.2.2.1 ol.2.2.2.2.2.1 ol.2.2.2.2.2.2.1 (by omega) (by omega) (by omega) dL_law_341 ?_
  refine l_callVI (st := []) ok ⟨by show _ ≤ 1165; omega, by show _ ≤ 30866; omega⟩ cs_L_132 kW_72 rfl (fr_I sub_M (inj_ok ok) (A_ok ok sub_M) (c_X10_count X.2.1 (Ysub Y 72 KM.length) (Ysub_D sub_M (inj_ok ok)) h)) ⟨rfl, rfl, Nat.le_of_ble_eq_true rfl, Nat.le_of_ble_eq_true rfl⟩ rfl rfl (Nat.le_of_ble_eq_true rfl) dL_law_342 (fun σ2 r1 h => ?_)
  obtain ⟨u1, h, hu1⟩ := h
  have h := h σ2 hu1
  refine l_istore (lv' := [(6, .inl r1), (5, .inl k1), (0, .inr (.inr 1000)), (1, .inr (.inr 0)), (2, .inr (.inr 72)), (3, .inr (.inr 117)), (4, .inl i)]) ok dL_law_345 (by decide) rfl ?_
  refine l_aload_n ok dL_law_347 4 rfl ?_
  refine l_callVI (st := []) ok ⟨by show _ ≤ 1165; omega, by show _ ≤ 30866; omega⟩ cs_L_115 kW_72 rfl (fr_I sub_M (inj_ok ok) (A_ok ok sub_M) (c_X10_thrown X.2.1 (Ysub Y 72 KM.length) (Ysub_D sub_M (inj_ok ok)) h)) ⟨rfl, rfl, Nat.le_of_ble_eq_true rfl, Nat.le_of_ble_eq_true rfl⟩ rfl rfl (Nat.le_of_ble_eq_true rfl) dL_law_348 (fun σ3 r2 h => ?_)
  obtain ⟨u2, h, hu2⟩ := h
  have h := h σ3 hu2
  refine l_iload ok dL_law_351 1 rfl ?_
  obtain ⟨g1, g2, hA3a, hA3b⟩ := h
  refine l_icmp_eq (tgt := 358) ok dL_law_353 (by decide) g1 g2 (fun c3 => ?_) (fun c3 => ?_)
  · have h := hA3a c3
    refine l_iload ok dL_law_358 1 rfl ?_
    obtain ⟨g3, hA2a, hA2b⟩ := h
    refine l_if_ne (tgt := 375) ok dL_law_360 (by decide) g3 (fun c2 => ?_) (fun c2 => ?_)
    · have h := hA2a c2
      refine l_goto (tgt := 1908) ok dL_law_375 (by decide) ?_
      refine l_sub [2, 3, 4, 5, 6] rfl ?_
      exact hk σ3 h
    · have h := hA2b c2
      refine l_aload_n ok dL_law_363 5 rfl ?_
      refine l_iconst ok dL_law_364 ?_
      refine l_lald ok kW_ok kW_117 (by decide) (by decide) dL_law_365 ?_
      refine l_iload ok dL_law_366 0 rfl ?_
      refine l_i2l ok dL_law_368 ?_
      refine l_lcmp ok dL_law_369 ?_
      obtain ⟨g4, hA1a, hA1b⟩ := h
      refine l_if_eq (tgt := 375) ok dL_law_370 (by decide) g4 (fun c1 => ?_) (fun c1 => ?_)
      · have h := hA1a c1
        refine l_goto (tgt := 1908) ok dL_law_375 (by decide) ?_
        refine l_sub [2, 3, 4, 5, 6] rfl ?_
        exact hk σ3 h
      · have h := hA1b c1
        exact h.elim
  · have h := hA3b c3
    exact h.elim
def f_W_5 (xs : Nat → Int32) (i : Int) (σ : St) (k : St → Prop) : Prop :=
  f_L_name (xs (i + 1).toNat).toInt σ (fun σ1 k1 => f_X10_name (xs (i + 1).toNat).toInt (ssub σ1 72) (fun u1 r1 => ∀ σ2 : St, σ2 = mM σ1 u1 → f_X10_thrown (ssub σ2 72) (fun u2 r2 => ∀ σ3 : St, σ3 = mM σ2 u2 → inR r2 ∧ inR k1 ∧ ((r2 = k1 → inR k1 ∧ ((¬ k1 = 0 → k σ3) ∧ (k1 = 0 → inR (lcmp64 (σ3 117 0) (i2l64 r1)) ∧ (((lcmp64 (σ3 117 0) (i2l64 r1)) = 0 → k σ3) ∧ (¬ (lcmp64 (σ3 117 0) (i2l64 r1)) = 0 → False))))) ∧ (¬ r2 = k1 → False)))))
set_option maxRecDepth 100000 in
set_option maxHeartbeats 4000000 in
theorem w_W_5 {X : Cx} {Y : Cy} {Q : State → Prop} {kc ks b0 L : Nat} {xs : Nat → Int32} {i : Int} {σ : St} {k : St → Prop} (ol : OL X Y b0 L xs) (hi : 0 ≤ i) (hi2 : i + 2 < L) (hb : kc + 1 ≤ 1165 ∧ ks + 6 ≤ 30866) (hk : ∀ σ', k σ' → Lq X Y KW 7 Q (kc + 1) (ks + 6) σ' 1908 [(0, .inr (.inr 1000)), (1, .inr (.inr 0)), (2, .inr (.inr 72)), (3, .inr (.inr 117)), (4, .inl i)] []) (h : f_W_5 xs i σ k) : Lq X Y KW 7 Q kc ks σ 378 [(0, .inr (.inr 1000)), (1, .inr (.inr 0)), (2, .inr (.inr 72)), (3, .inr (.inr 117)), (4, .inl i)] [] := by
  have ok : Ok X Y KW cL_law 7 RL room_1 ret := ol.1
  have hL := ol.2.2.2.2.2.2.2
  unfold f_W_5 at h
  refine l_aload_n ok dL_law_378 1 rfl ?_
  refine l_aload_n ok dL_law_379 0 rfl ?_
  refine l_iload ok dL_law_380 4 rfl ?_
  refine l_iconst ok dL_law_382 ?_
  refine l_iadd ok dL_law_383 ?_
  refine l_sld ok ol.2.2.2.1 ol.2.2.2.2.1 ol.2.2.2.2.2.1 ol.2.2.2.2.2.2.1 (by omega) (by omega) (by omega) dL_law_384 ?_
  refine l_aload_n ok dL_law_385 3 rfl ?_
  refine l_help (st := []) ok ol.2.2.1 hs_L_133 (c_L_name X.2.1 ol.2.1 Y ok.2.2.2.2.2.2.2.2 h) ⟨rfl, rfl, Nat.le_of_ble_eq_true rfl, Nat.le_of_ble_eq_true rfl⟩ hb rfl rfl (Nat.le_of_ble_eq_true rfl) dL_law_386 (fun σ1 k1 h => ?_)
  refine l_istore (lv' := [(5, .inl k1), (0, .inr (.inr 1000)), (1, .inr (.inr 0)), (2, .inr (.inr 72)), (3, .inr (.inr 117)), (4, .inl i)]) ok dL_law_389 (by decide) rfl ?_
  refine l_aload_n ok dL_law_391 3 rfl ?_
  refine l_aload_n ok dL_law_392 1 rfl ?_
  refine l_iload ok dL_law_393 5 rfl ?_
  refine l_iconst ok dL_law_395 ?_
  refine l_iadd ok dL_law_396 ?_
  refine l_sld ok ol.2.2.2.1 ol.2.2.2.2.1 ol.2.2.2.2.2.1 ol.2.2.2.2.2.2.1 (by omega) (by omega) (by omega) dL_law_397 ?_
  refine l_callVI (st := []) ok ⟨by show _ ≤ 1165; omega, by show _ ≤ 30866; omega⟩ cs_L_135 kW_72 rfl (fr_I sub_M (inj_ok ok) (A_ok ok sub_M) (c_X10_name X.2.1 (Ysub Y 72 KM.length) (Ysub_D sub_M (inj_ok ok)) h)) ⟨rfl, rfl, Nat.le_of_ble_eq_true rfl, Nat.le_of_ble_eq_true rfl⟩ rfl rfl (Nat.le_of_ble_eq_true rfl) dL_law_398 (fun σ2 r1 h => ?_)
  obtain ⟨u1, h, hu1⟩ := h
  have h := h σ2 hu1
  refine l_istore (lv' := [(6, .inl r1), (5, .inl k1), (0, .inr (.inr 1000)), (1, .inr (.inr 0)), (2, .inr (.inr 72)), (3, .inr (.inr 117)), (4, .inl i)]) ok dL_law_401 (by decide) rfl ?_
  refine l_aload_n ok dL_law_403 4 rfl ?_
  refine l_callVI (st := []) ok ⟨by show _ ≤ 1165; omega, by show _ ≤ 30866; omega⟩ cs_L_115 kW_72 rfl (fr_I sub_M (inj_ok ok) (A_ok ok sub_M) (c_X10_thrown X.2.1 (Ysub Y 72 KM.length) (Ysub_D sub_M (inj_ok ok)) h)) ⟨rfl, rfl, Nat.le_of_ble_eq_true rfl, Nat.le_of_ble_eq_true rfl⟩ rfl rfl (Nat.le_of_ble_eq_true rfl) dL_law_404 (fun σ3 r2 h => ?_)
  obtain ⟨u2, h, hu2⟩ := h
  have h := h σ3 hu2
  refine l_iload ok dL_law_407 1 rfl ?_
  obtain ⟨g1, g2, hA3a, hA3b⟩ := h
  refine l_icmp_eq (tgt := 414) ok dL_law_409 (by decide) g1 g2 (fun c3 => ?_) (fun c3 => ?_)
  · have h := hA3a c3
    refine l_iload ok dL_law_414 1 rfl ?_
    obtain ⟨g3, hA2a, hA2b⟩ := h
    refine l_if_ne (tgt := 431) ok dL_law_416 (by decide) g3 (fun c2 => ?_) (fun c2 => ?_)
    · have h := hA2a c2
      refine l_goto (tgt := 1908) ok dL_law_431 (by decide) ?_
      refine l_sub [2, 3, 4, 5, 6] rfl ?_
      exact hk σ3 h
    · have h := hA2b c2
      refine l_aload_n ok dL_law_419 5 rfl ?_
      refine l_iconst ok dL_law_420 ?_
      refine l_lald ok kW_ok kW_117 (by decide) (by decide) dL_law_421 ?_
      refine l_iload ok dL_law_422 0 rfl ?_
      refine l_i2l ok dL_law_424 ?_
      refine l_lcmp ok dL_law_425 ?_
      obtain ⟨g4, hA1a, hA1b⟩ := h
      refine l_if_eq (tgt := 431) ok dL_law_426 (by decide) g4 (fun c1 => ?_) (fun c1 => ?_)
      · have h := hA1a c1
        refine l_goto (tgt := 1908) ok dL_law_431 (by decide) ?_
        refine l_sub [2, 3, 4, 5, 6] rfl ?_
        exact hk σ3 h
      · have h := hA1b c1
        exact h.elim
  · have h := hA3b c3
    exact h.elim
def f_W_6 (xs : Nat → Int32) (i : Int) (σ : St) (k : St → Prop) : Prop :=
  f_L_isHub (xs (i + 1).toNat).toInt σ (fun σ1 k1 => f_X10_isHub (xs (i + 1).toNat).toInt (ssub σ1 72) (fun u1 r1 => ∀ σ2 : St, σ2 = mM σ1 u1 → f_X10_thrown (ssub σ2 72) (fun u2 r2 => ∀ σ3 : St, σ3 = mM σ2 u2 → inR r2 ∧ inR k1 ∧ ((r2 = k1 → inR k1 ∧ ((¬ k1 = 0 → k σ3) ∧ (k1 = 0 → inR r1 ∧ ((r1 = 0 → inR (lcmp64 (σ3 117 0) 0) ∧ (((lcmp64 (σ3 117 0) 0) = 0 → k σ3) ∧ (¬ (lcmp64 (σ3 117 0) 0) = 0 → False))) ∧ (¬ r1 = 0 → inR (lcmp64 (σ3 117 0) 1) ∧ (((lcmp64 (σ3 117 0) 1) = 0 → k σ3) ∧ (¬ (lcmp64 (σ3 117 0) 1) = 0 → False))))))) ∧ (¬ r2 = k1 → False)))))
set_option maxRecDepth 100000 in
set_option maxHeartbeats 4000000 in
theorem w_W_6 {X : Cx} {Y : Cy} {Q : State → Prop} {kc ks b0 L : Nat} {xs : Nat → Int32} {i : Int} {σ : St} {k : St → Prop} (ol : OL X Y b0 L xs) (hi : 0 ≤ i) (hi2 : i + 2 < L) (hb : kc + 1 ≤ 1165 ∧ ks + 6 ≤ 30866) (hk : ∀ σ', k σ' → Lq X Y KW 7 Q (kc + 1) (ks + 6) σ' 1908 [(0, .inr (.inr 1000)), (1, .inr (.inr 0)), (2, .inr (.inr 72)), (3, .inr (.inr 117)), (4, .inl i)] []) (h : f_W_6 xs i σ k) : Lq X Y KW 7 Q kc ks σ 434 [(0, .inr (.inr 1000)), (1, .inr (.inr 0)), (2, .inr (.inr 72)), (3, .inr (.inr 117)), (4, .inl i)] [] := by
  have ok : Ok X Y KW cL_law 7 RL room_1 ret := ol.1
  have hL := ol.2.2.2.2.2.2.2
  unfold f_W_6 at h
  refine l_aload_n ok dL_law_434 1 rfl ?_
  refine l_aload_n ok dL_law_435 0 rfl ?_
  refine l_iload ok dL_law_436 4 rfl ?_
  refine l_iconst ok dL_law_438 ?_
  refine l_iadd ok dL_law_439 ?_
  refine l_sld ok ol.2.2.2.1 ol.2.2.2.2.1 ol.2.2.2.2.2.1 ol.2.2.2.2.2.2.1 (by omega) (by omega) (by omega) dL_law_440 ?_
  refine l_aload_n ok dL_law_441 3 rfl ?_
  refine l_help (st := []) ok ol.2.2.1 hs_L_136 (c_L_isHub X.2.1 ol.2.1 Y ok.2.2.2.2.2.2.2.2 h) ⟨rfl, rfl, Nat.le_of_ble_eq_true rfl, Nat.le_of_ble_eq_true rfl⟩ hb rfl rfl (Nat.le_of_ble_eq_true rfl) dL_law_442 (fun σ1 k1 h => ?_)
  refine l_istore (lv' := [(5, .inl k1), (0, .inr (.inr 1000)), (1, .inr (.inr 0)), (2, .inr (.inr 72)), (3, .inr (.inr 117)), (4, .inl i)]) ok dL_law_445 (by decide) rfl ?_
  refine l_aload_n ok dL_law_447 3 rfl ?_
  refine l_aload_n ok dL_law_448 1 rfl ?_
  refine l_iload ok dL_law_449 5 rfl ?_
  refine l_iconst ok dL_law_451 ?_
  refine l_iadd ok dL_law_452 ?_
  refine l_sld ok ol.2.2.2.1 ol.2.2.2.2.1 ol.2.2.2.2.2.1 ol.2.2.2.2.2.2.1 (by omega) (by omega) (by omega) dL_law_453 ?_
  refine l_callVI (st := []) ok ⟨by show _ ≤ 1165; omega, by show _ ≤ 30866; omega⟩ cs_L_138 kW_72 rfl (fr_I sub_M (inj_ok ok) (A_ok ok sub_M) (c_X10_isHub X.2.1 (Ysub Y 72 KM.length) (Ysub_D sub_M (inj_ok ok)) h)) ⟨rfl, rfl, Nat.le_of_ble_eq_true rfl, Nat.le_of_ble_eq_true rfl⟩ rfl rfl (Nat.le_of_ble_eq_true rfl) dL_law_454 (fun σ2 r1 h => ?_)
  obtain ⟨u1, h, hu1⟩ := h
  have h := h σ2 hu1
  refine l_istore (lv' := [(6, .inl r1), (5, .inl k1), (0, .inr (.inr 1000)), (1, .inr (.inr 0)), (2, .inr (.inr 72)), (3, .inr (.inr 117)), (4, .inl i)]) ok dL_law_457 (by decide) rfl ?_
  refine l_aload_n ok dL_law_459 4 rfl ?_
  refine l_callVI (st := []) ok ⟨by show _ ≤ 1165; omega, by show _ ≤ 30866; omega⟩ cs_L_115 kW_72 rfl (fr_I sub_M (inj_ok ok) (A_ok ok sub_M) (c_X10_thrown X.2.1 (Ysub Y 72 KM.length) (Ysub_D sub_M (inj_ok ok)) h)) ⟨rfl, rfl, Nat.le_of_ble_eq_true rfl, Nat.le_of_ble_eq_true rfl⟩ rfl rfl (Nat.le_of_ble_eq_true rfl) dL_law_460 (fun σ3 r2 h => ?_)
  obtain ⟨u2, h, hu2⟩ := h
  have h := h σ3 hu2
  refine l_iload ok dL_law_463 1 rfl ?_
  obtain ⟨g1, g2, hA5a, hA5b⟩ := h
  refine l_icmp_eq (tgt := 470) ok dL_law_465 (by decide) g1 g2 (fun c5 => ?_) (fun c5 => ?_)
  · have h := hA5a c5
    refine l_iload ok dL_law_470 1 rfl ?_
    obtain ⟨g3, hA4a, hA4b⟩ := h
    refine l_if_ne (tgt := 494) ok dL_law_472 (by decide) g3 (fun c4 => ?_) (fun c4 => ?_)
    · have h := hA4a c4
      refine l_goto (tgt := 1908) ok dL_law_494 (by decide) ?_
      refine l_sub [2, 3, 4, 5, 6] rfl ?_
      exact hk σ3 h
    · have h := hA4b c4
      refine l_aload_n ok dL_law_475 5 rfl ?_
      refine l_iconst ok dL_law_476 ?_
      refine l_lald ok kW_ok kW_117 (by decide) (by decide) dL_law_477 ?_
      refine l_iload ok dL_law_478 0 rfl ?_
      obtain ⟨g4, hA3a, hA3b⟩ := h
      refine l_if_eq (tgt := 487) ok dL_law_480 (by decide) g4 (fun c3 => ?_) (fun c3 => ?_)
      · have h := hA3a c3
        refine l_lconst ok dL_law_487 0 rfl ?_
        refine l_lcmp ok dL_law_488 ?_
        obtain ⟨g5, hA1a, hA1b⟩ := h
        refine l_if_eq (tgt := 494) ok dL_law_489 (by decide) g5 (fun c1 => ?_) (fun c1 => ?_)
        · have h := hA1a c1
          refine l_goto (tgt := 1908) ok dL_law_494 (by decide) ?_
          refine l_sub [2, 3, 4, 5, 6] rfl ?_
          exact hk σ3 h
        · have h := hA1b c1
          exact h.elim
      · have h := hA3b c3
        refine l_lconst ok dL_law_483 1 rfl ?_
        refine l_goto (tgt := 488) ok dL_law_484 (by decide) ?_
        refine l_lcmp ok dL_law_488 ?_
        obtain ⟨g6, hA2a, hA2b⟩ := h
        refine l_if_eq (tgt := 494) ok dL_law_489 (by decide) g6 (fun c2 => ?_) (fun c2 => ?_)
        · have h := hA2a c2
          refine l_goto (tgt := 1908) ok dL_law_494 (by decide) ?_
          refine l_sub [2, 3, 4, 5, 6] rfl ?_
          exact hk σ3 h
        · have h := hA2b c2
          exact h.elim
  · have h := hA5b c5
    exact h.elim
def f_W_7 (xs : Nat → Int32) (i : Int) (σ : St) (k : St → Prop) : Prop :=
  f_L_label (xs (i + 1).toNat).toInt σ (fun σ1 k1 => f_X10_label (xs (i + 1).toNat).toInt (ssub σ1 72) (fun u1 r1 => ∀ σ2 : St, σ2 = mM σ1 u1 → f_X10_thrown (ssub σ2 72) (fun u2 r2 => ∀ σ3 : St, σ3 = mM σ2 u2 → inR r2 ∧ inR k1 ∧ ((r2 = k1 → inR k1 ∧ ((¬ k1 = 0 → k σ3) ∧ (k1 = 0 → inR (lcmp64 (σ3 117 0) (i2l64 r1)) ∧ (((lcmp64 (σ3 117 0) (i2l64 r1)) = 0 → k σ3) ∧ (¬ (lcmp64 (σ3 117 0) (i2l64 r1)) = 0 → False))))) ∧ (¬ r2 = k1 → False)))))
set_option maxRecDepth 100000 in
set_option maxHeartbeats 4000000 in
theorem w_W_7 {X : Cx} {Y : Cy} {Q : State → Prop} {kc ks b0 L : Nat} {xs : Nat → Int32} {i : Int} {σ : St} {k : St → Prop} (ol : OL X Y b0 L xs) (hi : 0 ≤ i) (hi2 : i + 2 < L) (hb : kc + 1 ≤ 1165 ∧ ks + 6 ≤ 30866) (hk : ∀ σ', k σ' → Lq X Y KW 7 Q (kc + 1) (ks + 6) σ' 1908 [(0, .inr (.inr 1000)), (1, .inr (.inr 0)), (2, .inr (.inr 72)), (3, .inr (.inr 117)), (4, .inl i)] []) (h : f_W_7 xs i σ k) : Lq X Y KW 7 Q kc ks σ 497 [(0, .inr (.inr 1000)), (1, .inr (.inr 0)), (2, .inr (.inr 72)), (3, .inr (.inr 117)), (4, .inl i)] [] := by
  have ok : Ok X Y KW cL_law 7 RL room_1 ret := ol.1
  have hL := ol.2.2.2.2.2.2.2
  unfold f_W_7 at h
  refine l_aload_n ok dL_law_497 1 rfl ?_
  refine l_aload_n ok dL_law_498 0 rfl ?_
  refine l_iload ok dL_law_499 4 rfl ?_
  refine l_iconst ok dL_law_501 ?_
  refine l_iadd ok dL_law_502 ?_
  refine l_sld ok ol.2.2.2.1 ol.2.2.2.2.1 ol.2.2.2.2.2.1 ol.2.2.2.2.2.2.1 (by omega) (by omega) (by omega) dL_law_503 ?_
  refine l_aload_n ok dL_law_504 3 rfl ?_
  refine l_help (st := []) ok ol.2.2.1 hs_L_139 (c_L_label X.2.1 ol.2.1 Y ok.2.2.2.2.2.2.2.2 h) ⟨rfl, rfl, Nat.le_of_ble_eq_true rfl, Nat.le_of_ble_eq_true rfl⟩ hb rfl rfl (Nat.le_of_ble_eq_true rfl) dL_law_505 (fun σ1 k1 h => ?_)
  refine l_istore (lv' := [(5, .inl k1), (0, .inr (.inr 1000)), (1, .inr (.inr 0)), (2, .inr (.inr 72)), (3, .inr (.inr 117)), (4, .inl i)]) ok dL_law_508 (by decide) rfl ?_
  refine l_aload_n ok dL_law_510 3 rfl ?_
  refine l_aload_n ok dL_law_511 1 rfl ?_
  refine l_iload ok dL_law_512 5 rfl ?_
  refine l_iconst ok dL_law_514 ?_
  refine l_iadd ok dL_law_515 ?_
  refine l_sld ok ol.2.2.2.1 ol.2.2.2.2.1 ol.2.2.2.2.2.1 ol.2.2.2.2.2.2.1 (by omega) (by omega) (by omega) dL_law_516 ?_
  refine l_callVI (st := []) ok ⟨by show _ ≤ 1165; omega, by show _ ≤ 30866; omega⟩ cs_L_141 kW_72 rfl (fr_I sub_M (inj_ok ok) (A_ok ok sub_M) (c_X10_label X.2.1 (Ysub Y 72 KM.length) (Ysub_D sub_M (inj_ok ok)) h)) ⟨rfl, rfl, Nat.le_of_ble_eq_true rfl, Nat.le_of_ble_eq_true rfl⟩ rfl rfl (Nat.le_of_ble_eq_true rfl) dL_law_517 (fun σ2 r1 h => ?_)
  obtain ⟨u1, h, hu1⟩ := h
  have h := h σ2 hu1
  refine l_istore (lv' := [(6, .inl r1), (5, .inl k1), (0, .inr (.inr 1000)), (1, .inr (.inr 0)), (2, .inr (.inr 72)), (3, .inr (.inr 117)), (4, .inl i)]) ok dL_law_520 (by decide) rfl ?_
  refine l_aload_n ok dL_law_522 4 rfl ?_
  refine l_callVI (st := []) ok ⟨by show _ ≤ 1165; omega, by show _ ≤ 30866; omega⟩ cs_L_115 kW_72 rfl (fr_I sub_M (inj_ok ok) (A_ok ok sub_M) (c_X10_thrown X.2.1 (Ysub Y 72 KM.length) (Ysub_D sub_M (inj_ok ok)) h)) ⟨rfl, rfl, Nat.le_of_ble_eq_true rfl, Nat.le_of_ble_eq_true rfl⟩ rfl rfl (Nat.le_of_ble_eq_true rfl) dL_law_523 (fun σ3 r2 h => ?_)
  obtain ⟨u2, h, hu2⟩ := h
  have h := h σ3 hu2
  refine l_iload ok dL_law_526 1 rfl ?_
  obtain ⟨g1, g2, hA3a, hA3b⟩ := h
  refine l_icmp_eq (tgt := 533) ok dL_law_528 (by decide) g1 g2 (fun c3 => ?_) (fun c3 => ?_)
  · have h := hA3a c3
    refine l_iload ok dL_law_533 1 rfl ?_
    obtain ⟨g3, hA2a, hA2b⟩ := h
    refine l_if_ne (tgt := 550) ok dL_law_535 (by decide) g3 (fun c2 => ?_) (fun c2 => ?_)
    · have h := hA2a c2
      refine l_goto (tgt := 1908) ok dL_law_550 (by decide) ?_
      refine l_sub [2, 3, 4, 5, 6] rfl ?_
      exact hk σ3 h
    · have h := hA2b c2
      refine l_aload_n ok dL_law_538 5 rfl ?_
      refine l_iconst ok dL_law_539 ?_
      refine l_lald ok kW_ok kW_117 (by decide) (by decide) dL_law_540 ?_
      refine l_iload ok dL_law_541 0 rfl ?_
      refine l_i2l ok dL_law_543 ?_
      refine l_lcmp ok dL_law_544 ?_
      obtain ⟨g4, hA1a, hA1b⟩ := h
      refine l_if_eq (tgt := 550) ok dL_law_545 (by decide) g4 (fun c1 => ?_) (fun c1 => ?_)
      · have h := hA1a c1
        refine l_goto (tgt := 1908) ok dL_law_550 (by decide) ?_
        refine l_sub [2, 3, 4, 5, 6] rfl ?_
        exact hk σ3 h
      · have h := hA1b c1
        exact h.elim
  · have h := hA3b c3
    exact h.elim
def f_W_8 (xs : Nat → Int32) (i : Int) (σ : St) (k : St → Prop) : Prop :=
  f_L_nodeOf (xs (i + 1).toNat).toInt σ (fun σ1 k1 => f_X10_nodeOf (xs (i + 1).toNat).toInt (ssub σ1 72) (fun u1 r1 => ∀ σ2 : St, σ2 = mM σ1 u1 → f_X10_thrown (ssub σ2 72) (fun u2 r2 => ∀ σ3 : St, σ3 = mM σ2 u2 → inR r2 ∧ inR k1 ∧ ((r2 = k1 → inR k1 ∧ ((¬ k1 = 0 → k σ3) ∧ (k1 = 0 → inR (lcmp64 (σ3 117 0) (i2l64 r1)) ∧ (((lcmp64 (σ3 117 0) (i2l64 r1)) = 0 → k σ3) ∧ (¬ (lcmp64 (σ3 117 0) (i2l64 r1)) = 0 → False))))) ∧ (¬ r2 = k1 → False)))))
set_option maxRecDepth 100000 in
set_option maxHeartbeats 4000000 in
theorem w_W_8 {X : Cx} {Y : Cy} {Q : State → Prop} {kc ks b0 L : Nat} {xs : Nat → Int32} {i : Int} {σ : St} {k : St → Prop} (ol : OL X Y b0 L xs) (hi : 0 ≤ i) (hi2 : i + 2 < L) (hb : kc + 1 ≤ 1165 ∧ ks + 6 ≤ 30866) (hk : ∀ σ', k σ' → Lq X Y KW 7 Q (kc + 1) (ks + 6) σ' 1908 [(0, .inr (.inr 1000)), (1, .inr (.inr 0)), (2, .inr (.inr 72)), (3, .inr (.inr 117)), (4, .inl i)] []) (h : f_W_8 xs i σ k) : Lq X Y KW 7 Q kc ks σ 553 [(0, .inr (.inr 1000)), (1, .inr (.inr 0)), (2, .inr (.inr 72)), (3, .inr (.inr 117)), (4, .inl i)] [] := by
  have ok : Ok X Y KW cL_law 7 RL room_1 ret := ol.1
  have hL := ol.2.2.2.2.2.2.2
  unfold f_W_8 at h
  refine l_aload_n ok dL_law_553 1 rfl ?_
  refine l_aload_n ok dL_law_554 0 rfl ?_
  refine l_iload ok dL_law_555 4 rfl ?_
  refine l_iconst ok dL_law_557 ?_
  refine l_iadd ok dL_law_558 ?_
  refine l_sld ok ol.2.2.2.1 ol.2.2.2.2.1 ol.2.2.2.2.2.1 ol.2.2.2.2.2.2.1 (by omega) (by omega) (by omega) dL_law_559 ?_
  refine l_aload_n ok dL_law_560 3 rfl ?_
  refine l_help (st := []) ok ol.2.2.1 hs_L_142 (c_L_nodeOf X.2.1 ol.2.1 Y ok.2.2.2.2.2.2.2.2 h) ⟨rfl, rfl, Nat.le_of_ble_eq_true rfl, Nat.le_of_ble_eq_true rfl⟩ hb rfl rfl (Nat.le_of_ble_eq_true rfl) dL_law_561 (fun σ1 k1 h => ?_)
  refine l_istore (lv' := [(5, .inl k1), (0, .inr (.inr 1000)), (1, .inr (.inr 0)), (2, .inr (.inr 72)), (3, .inr (.inr 117)), (4, .inl i)]) ok dL_law_564 (by decide) rfl ?_
  refine l_aload_n ok dL_law_566 3 rfl ?_
  refine l_aload_n ok dL_law_567 1 rfl ?_
  refine l_iload ok dL_law_568 5 rfl ?_
  refine l_iconst ok dL_law_570 ?_
  refine l_iadd ok dL_law_571 ?_
  refine l_sld ok ol.2.2.2.1 ol.2.2.2.2.1 ol.2.2.2.2.2.1 ol.2.2.2.2.2.2.1 (by omega) (by omega) (by omega) dL_law_572 ?_
  refine l_callVI (st := []) ok ⟨by show _ ≤ 1165; omega, by show _ ≤ 30866; omega⟩ cs_L_144 kW_72 rfl (fr_I sub_M (inj_ok ok) (A_ok ok sub_M) (c_X10_nodeOf X.2.1 (Ysub Y 72 KM.length) (Ysub_D sub_M (inj_ok ok)) h)) ⟨rfl, rfl, Nat.le_of_ble_eq_true rfl, Nat.le_of_ble_eq_true rfl⟩ rfl rfl (Nat.le_of_ble_eq_true rfl) dL_law_573 (fun σ2 r1 h => ?_)
  obtain ⟨u1, h, hu1⟩ := h
  have h := h σ2 hu1
  refine l_istore (lv' := [(6, .inl r1), (5, .inl k1), (0, .inr (.inr 1000)), (1, .inr (.inr 0)), (2, .inr (.inr 72)), (3, .inr (.inr 117)), (4, .inl i)]) ok dL_law_576 (by decide) rfl ?_
  refine l_aload_n ok dL_law_578 4 rfl ?_
  refine l_callVI (st := []) ok ⟨by show _ ≤ 1165; omega, by show _ ≤ 30866; omega⟩ cs_L_115 kW_72 rfl (fr_I sub_M (inj_ok ok) (A_ok ok sub_M) (c_X10_thrown X.2.1 (Ysub Y 72 KM.length) (Ysub_D sub_M (inj_ok ok)) h)) ⟨rfl, rfl, Nat.le_of_ble_eq_true rfl, Nat.le_of_ble_eq_true rfl⟩ rfl rfl (Nat.le_of_ble_eq_true rfl) dL_law_579 (fun σ3 r2 h => ?_)
  obtain ⟨u2, h, hu2⟩ := h
  have h := h σ3 hu2
  refine l_iload ok dL_law_582 1 rfl ?_
  obtain ⟨g1, g2, hA3a, hA3b⟩ := h
  refine l_icmp_eq (tgt := 589) ok dL_law_584 (by decide) g1 g2 (fun c3 => ?_) (fun c3 => ?_)
  · have h := hA3a c3
    refine l_iload ok dL_law_589 1 rfl ?_
    obtain ⟨g3, hA2a, hA2b⟩ := h
    refine l_if_ne (tgt := 606) ok dL_law_591 (by decide) g3 (fun c2 => ?_) (fun c2 => ?_)
    · have h := hA2a c2
      refine l_goto (tgt := 1908) ok dL_law_606 (by decide) ?_
      refine l_sub [2, 3, 4, 5, 6] rfl ?_
      exact hk σ3 h
    · have h := hA2b c2
      refine l_aload_n ok dL_law_594 5 rfl ?_
      refine l_iconst ok dL_law_595 ?_
      refine l_lald ok kW_ok kW_117 (by decide) (by decide) dL_law_596 ?_
      refine l_iload ok dL_law_597 0 rfl ?_
      refine l_i2l ok dL_law_599 ?_
      refine l_lcmp ok dL_law_600 ?_
      obtain ⟨g4, hA1a, hA1b⟩ := h
      refine l_if_eq (tgt := 606) ok dL_law_601 (by decide) g4 (fun c1 => ?_) (fun c1 => ?_)
      · have h := hA1a c1
        refine l_goto (tgt := 1908) ok dL_law_606 (by decide) ?_
        refine l_sub [2, 3, 4, 5, 6] rfl ?_
        exact hk σ3 h
      · have h := hA1b c1
        exact h.elim
  · have h := hA3b c3
    exact h.elim
def f_W_9 (xs : Nat → Int32) (i : Int) (σ : St) (k : St → Prop) : Prop :=
  f_L_start σ (fun σ1 k1 => f_X10_start (ssub σ1 72) (fun u1 r1 => ∀ σ2 : St, σ2 = mM σ1 u1 → f_X10_thrown (ssub σ2 72) (fun u2 r2 => ∀ σ3 : St, σ3 = mM σ2 u2 → inR r2 ∧ inR k1 ∧ ((r2 = k1 → inR k1 ∧ ((¬ k1 = 0 → k σ3) ∧ (k1 = 0 → inR (lcmp64 (σ3 117 0) (i2l64 r1)) ∧ (((lcmp64 (σ3 117 0) (i2l64 r1)) = 0 → k σ3) ∧ (¬ (lcmp64 (σ3 117 0) (i2l64 r1)) = 0 → False))))) ∧ (¬ r2 = k1 → False)))))
set_option maxRecDepth 100000 in
set_option maxHeartbeats 4000000 in
theorem w_W_9 {X : Cx} {Y : Cy} {Q : State → Prop} {kc ks b0 L : Nat} {xs : Nat → Int32} {i : Int} {σ : St} {k : St → Prop} (ol : OL X Y b0 L xs) (hi : 0 ≤ i) (hi2 : i + 2 < L) (hb : kc + 1 ≤ 1165 ∧ ks + 6 ≤ 30866) (hk : ∀ σ', k σ' → Lq X Y KW 7 Q (kc + 1) (ks + 6) σ' 1908 [(0, .inr (.inr 1000)), (1, .inr (.inr 0)), (2, .inr (.inr 72)), (3, .inr (.inr 117)), (4, .inl i)] []) (h : f_W_9 xs i σ k) : Lq X Y KW 7 Q kc ks σ 609 [(0, .inr (.inr 1000)), (1, .inr (.inr 0)), (2, .inr (.inr 72)), (3, .inr (.inr 117)), (4, .inl i)] [] := by
  have ok : Ok X Y KW cL_law 7 RL room_1 ret := ol.1
  have hL := ol.2.2.2.2.2.2.2
  unfold f_W_9 at h
  refine l_aload_n ok dL_law_609 1 rfl ?_
  refine l_aload_n ok dL_law_610 3 rfl ?_
  refine l_help (st := []) ok ol.2.2.1 hs_L_145 (c_L_start X.2.1 ol.2.1 Y ok.2.2.2.2.2.2.2.2 h) ⟨rfl, rfl, Nat.le_of_ble_eq_true rfl, Nat.le_of_ble_eq_true rfl⟩ hb rfl rfl (Nat.le_of_ble_eq_true rfl) dL_law_611 (fun σ1 k1 h => ?_)
  refine l_istore (lv' := [(5, .inl k1), (0, .inr (.inr 1000)), (1, .inr (.inr 0)), (2, .inr (.inr 72)), (3, .inr (.inr 117)), (4, .inl i)]) ok dL_law_614 (by decide) rfl ?_
  refine l_aload_n ok dL_law_616 3 rfl ?_
  refine l_callVI (st := []) ok ⟨by show _ ≤ 1165; omega, by show _ ≤ 30866; omega⟩ cs_L_147 kW_72 rfl (fr_I sub_M (inj_ok ok) (A_ok ok sub_M) (c_X10_start X.2.1 (Ysub Y 72 KM.length) (Ysub_D sub_M (inj_ok ok)) h)) ⟨rfl, rfl, Nat.le_of_ble_eq_true rfl, Nat.le_of_ble_eq_true rfl⟩ rfl rfl (Nat.le_of_ble_eq_true rfl) dL_law_617 (fun σ2 r1 h => ?_)
  obtain ⟨u1, h, hu1⟩ := h
  have h := h σ2 hu1
  refine l_istore (lv' := [(6, .inl r1), (5, .inl k1), (0, .inr (.inr 1000)), (1, .inr (.inr 0)), (2, .inr (.inr 72)), (3, .inr (.inr 117)), (4, .inl i)]) ok dL_law_620 (by decide) rfl ?_
  refine l_aload_n ok dL_law_622 4 rfl ?_
  refine l_callVI (st := []) ok ⟨by show _ ≤ 1165; omega, by show _ ≤ 30866; omega⟩ cs_L_115 kW_72 rfl (fr_I sub_M (inj_ok ok) (A_ok ok sub_M) (c_X10_thrown X.2.1 (Ysub Y 72 KM.length) (Ysub_D sub_M (inj_ok ok)) h)) ⟨rfl, rfl, Nat.le_of_ble_eq_true rfl, Nat.le_of_ble_eq_true rfl⟩ rfl rfl (Nat.le_of_ble_eq_true rfl) dL_law_623 (fun σ3 r2 h => ?_)
  obtain ⟨u2, h, hu2⟩ := h
  have h := h σ3 hu2
  refine l_iload ok dL_law_626 1 rfl ?_
  obtain ⟨g1, g2, hA3a, hA3b⟩ := h
  refine l_icmp_eq (tgt := 633) ok dL_law_628 (by decide) g1 g2 (fun c3 => ?_) (fun c3 => ?_)
  · have h := hA3a c3
    refine l_iload ok dL_law_633 1 rfl ?_
    obtain ⟨g3, hA2a, hA2b⟩ := h
    refine l_if_ne (tgt := 650) ok dL_law_635 (by decide) g3 (fun c2 => ?_) (fun c2 => ?_)
    · have h := hA2a c2
      refine l_goto (tgt := 1908) ok dL_law_650 (by decide) ?_
      refine l_sub [2, 3, 4, 5, 6] rfl ?_
      exact hk σ3 h
    · have h := hA2b c2
      refine l_aload_n ok dL_law_638 5 rfl ?_
      refine l_iconst ok dL_law_639 ?_
      refine l_lald ok kW_ok kW_117 (by decide) (by decide) dL_law_640 ?_
      refine l_iload ok dL_law_641 0 rfl ?_
      refine l_i2l ok dL_law_643 ?_
      refine l_lcmp ok dL_law_644 ?_
      obtain ⟨g4, hA1a, hA1b⟩ := h
      refine l_if_eq (tgt := 650) ok dL_law_645 (by decide) g4 (fun c1 => ?_) (fun c1 => ?_)
      · have h := hA1a c1
        refine l_goto (tgt := 1908) ok dL_law_650 (by decide) ?_
        refine l_sub [2, 3, 4, 5, 6] rfl ?_
        exact hk σ3 h
      · have h := hA1b c1
        exact h.elim
  · have h := hA3b c3
    exact h.elim
def f_W_10 (xs : Nat → Int32) (i : Int) (σ : St) (k : St → Prop) : Prop :=
  f_L_choose (xs (i + 1).toNat).toInt σ (fun σ1 k1 => f_X10_choose (xs (i + 1).toNat).toInt (ssub σ1 72) (fun u1 r1 => ∀ σ2 : St, σ2 = mM σ1 u1 → f_X10_thrown (ssub σ2 72) (fun u2 r2 => ∀ σ3 : St, σ3 = mM σ2 u2 → inR r2 ∧ inR k1 ∧ ((r2 = k1 → inR k1 ∧ ((¬ k1 = 0 → k σ3) ∧ (k1 = 0 → inR (lcmp64 (σ3 117 0) (i2l64 r1)) ∧ (((lcmp64 (σ3 117 0) (i2l64 r1)) = 0 → k σ3) ∧ (¬ (lcmp64 (σ3 117 0) (i2l64 r1)) = 0 → False))))) ∧ (¬ r2 = k1 → False)))))
set_option maxRecDepth 100000 in
set_option maxHeartbeats 4000000 in
theorem w_W_10 {X : Cx} {Y : Cy} {Q : State → Prop} {kc ks b0 L : Nat} {xs : Nat → Int32} {i : Int} {σ : St} {k : St → Prop} (ol : OL X Y b0 L xs) (hi : 0 ≤ i) (hi2 : i + 2 < L) (hb : kc + 1 ≤ 1165 ∧ ks + 6 ≤ 30866) (hk : ∀ σ', k σ' → Lq X Y KW 7 Q (kc + 1) (ks + 6) σ' 1908 [(0, .inr (.inr 1000)), (1, .inr (.inr 0)), (2, .inr (.inr 72)), (3, .inr (.inr 117)), (4, .inl i)] []) (h : f_W_10 xs i σ k) : Lq X Y KW 7 Q kc ks σ 653 [(0, .inr (.inr 1000)), (1, .inr (.inr 0)), (2, .inr (.inr 72)), (3, .inr (.inr 117)), (4, .inl i)] [] := by
  have ok : Ok X Y KW cL_law 7 RL room_1 ret := ol.1
  have hL := ol.2.2.2.2.2.2.2
  unfold f_W_10 at h
  refine l_aload_n ok dL_law_653 1 rfl ?_
  refine l_aload_n ok dL_law_654 0 rfl ?_
  refine l_iload ok dL_law_655 4 rfl ?_
  refine l_iconst ok dL_law_657 ?_
  refine l_iadd ok dL_law_658 ?_
  refine l_sld ok ol.2.2.2.1 ol.2.2.2.2.1 ol.2.2.2.2.2.1 ol.2.2.2.2.2.2.1 (by omega) (by omega) (by omega) dL_law_659 ?_
  refine l_aload_n ok dL_law_660 3 rfl ?_
  refine l_help (st := []) ok ol.2.2.1 hs_L_148 (c_L_choose X.2.1 ol.2.1 Y ok.2.2.2.2.2.2.2.2 h) ⟨rfl, rfl, Nat.le_of_ble_eq_true rfl, Nat.le_of_ble_eq_true rfl⟩ hb rfl rfl (Nat.le_of_ble_eq_true rfl) dL_law_661 (fun σ1 k1 h => ?_)
  refine l_istore (lv' := [(5, .inl k1), (0, .inr (.inr 1000)), (1, .inr (.inr 0)), (2, .inr (.inr 72)), (3, .inr (.inr 117)), (4, .inl i)]) ok dL_law_664 (by decide) rfl ?_
  refine l_aload_n ok dL_law_666 3 rfl ?_
  refine l_aload_n ok dL_law_667 1 rfl ?_
  refine l_iload ok dL_law_668 5 rfl ?_
  refine l_iconst ok dL_law_670 ?_
  refine l_iadd ok dL_law_671 ?_
  refine l_sld ok ol.2.2.2.1 ol.2.2.2.2.1 ol.2.2.2.2.2.1 ol.2.2.2.2.2.2.1 (by omega) (by omega) (by omega) dL_law_672 ?_
  refine l_callVI (st := []) ok ⟨by show _ ≤ 1165; omega, by show _ ≤ 30866; omega⟩ cs_L_150 kW_72 rfl (fr_I sub_M (inj_ok ok) (A_ok ok sub_M) (c_X10_choose X.2.1 (Ysub Y 72 KM.length) (Ysub_D sub_M (inj_ok ok)) h)) ⟨rfl, rfl, Nat.le_of_ble_eq_true rfl, Nat.le_of_ble_eq_true rfl⟩ rfl rfl (Nat.le_of_ble_eq_true rfl) dL_law_673 (fun σ2 r1 h => ?_)
  obtain ⟨u1, h, hu1⟩ := h
  have h := h σ2 hu1
  refine l_istore (lv' := [(6, .inl r1), (5, .inl k1), (0, .inr (.inr 1000)), (1, .inr (.inr 0)), (2, .inr (.inr 72)), (3, .inr (.inr 117)), (4, .inl i)]) ok dL_law_676 (by decide) rfl ?_
  refine l_aload_n ok dL_law_678 4 rfl ?_
  refine l_callVI (st := []) ok ⟨by show _ ≤ 1165; omega, by show _ ≤ 30866; omega⟩ cs_L_115 kW_72 rfl (fr_I sub_M (inj_ok ok) (A_ok ok sub_M) (c_X10_thrown X.2.1 (Ysub Y 72 KM.length) (Ysub_D sub_M (inj_ok ok)) h)) ⟨rfl, rfl, Nat.le_of_ble_eq_true rfl, Nat.le_of_ble_eq_true rfl⟩ rfl rfl (Nat.le_of_ble_eq_true rfl) dL_law_679 (fun σ3 r2 h => ?_)
  obtain ⟨u2, h, hu2⟩ := h
  have h := h σ3 hu2
  refine l_iload ok dL_law_682 1 rfl ?_
  obtain ⟨g1, g2, hA3a, hA3b⟩ := h
  refine l_icmp_eq (tgt := 689) ok dL_law_684 (by decide) g1 g2 (fun c3 => ?_) (fun c3 => ?_)
  · have h := hA3a c3
    refine l_iload ok dL_law_689 1 rfl ?_
    obtain ⟨g3, hA2a, hA2b⟩ := h
    refine l_if_ne (tgt := 706) ok dL_law_691 (by decide) g3 (fun c2 => ?_) (fun c2 => ?_)
    · have h := hA2a c2
      refine l_goto (tgt := 1908) ok dL_law_706 (by decide) ?_
      refine l_sub [2, 3, 4, 5, 6] rfl ?_
      exact hk σ3 h
    · have h := hA2b c2
      refine l_aload_n ok dL_law_694 5 rfl ?_
      refine l_iconst ok dL_law_695 ?_
      refine l_lald ok kW_ok kW_117 (by decide) (by decide) dL_law_696 ?_
      refine l_iload ok dL_law_697 0 rfl ?_
      refine l_i2l ok dL_law_699 ?_
      refine l_lcmp ok dL_law_700 ?_
      obtain ⟨g4, hA1a, hA1b⟩ := h
      refine l_if_eq (tgt := 706) ok dL_law_701 (by decide) g4 (fun c1 => ?_) (fun c1 => ?_)
      · have h := hA1a c1
        refine l_goto (tgt := 1908) ok dL_law_706 (by decide) ?_
        refine l_sub [2, 3, 4, 5, 6] rfl ?_
        exact hk σ3 h
      · have h := hA1b c1
        exact h.elim
  · have h := hA3b c3
    exact h.elim
def f_W_11 (xs : Nat → Int32) (i : Int) (σ : St) (k : St → Prop) : Prop :=
  f_L_back σ (fun σ1 k1 => f_X10_back (ssub σ1 72) (fun u1 r1 => ∀ σ2 : St, σ2 = mM σ1 u1 → f_X10_thrown (ssub σ2 72) (fun u2 r2 => ∀ σ3 : St, σ3 = mM σ2 u2 → inR r2 ∧ inR k1 ∧ ((r2 = k1 → inR k1 ∧ ((¬ k1 = 0 → k σ3) ∧ (k1 = 0 → inR (lcmp64 (σ3 117 0) (i2l64 r1)) ∧ (((lcmp64 (σ3 117 0) (i2l64 r1)) = 0 → k σ3) ∧ (¬ (lcmp64 (σ3 117 0) (i2l64 r1)) = 0 → False))))) ∧ (¬ r2 = k1 → False)))))
set_option maxRecDepth 100000 in
set_option maxHeartbeats 4000000 in
theorem w_W_11 {X : Cx} {Y : Cy} {Q : State → Prop} {kc ks b0 L : Nat} {xs : Nat → Int32} {i : Int} {σ : St} {k : St → Prop} (ol : OL X Y b0 L xs) (hi : 0 ≤ i) (hi2 : i + 2 < L) (hb : kc + 1 ≤ 1165 ∧ ks + 6 ≤ 30866) (hk : ∀ σ', k σ' → Lq X Y KW 7 Q (kc + 1) (ks + 6) σ' 1908 [(0, .inr (.inr 1000)), (1, .inr (.inr 0)), (2, .inr (.inr 72)), (3, .inr (.inr 117)), (4, .inl i)] []) (h : f_W_11 xs i σ k) : Lq X Y KW 7 Q kc ks σ 709 [(0, .inr (.inr 1000)), (1, .inr (.inr 0)), (2, .inr (.inr 72)), (3, .inr (.inr 117)), (4, .inl i)] [] := by
  have ok : Ok X Y KW cL_law 7 RL room_1 ret := ol.1
  have hL := ol.2.2.2.2.2.2.2
  unfold f_W_11 at h
  refine l_aload_n ok dL_law_709 1 rfl ?_
  refine l_aload_n ok dL_law_710 3 rfl ?_
  refine l_help (st := []) ok ol.2.2.1 hs_L_151 (c_L_back X.2.1 ol.2.1 Y ok.2.2.2.2.2.2.2.2 h) ⟨rfl, rfl, Nat.le_of_ble_eq_true rfl, Nat.le_of_ble_eq_true rfl⟩ hb rfl rfl (Nat.le_of_ble_eq_true rfl) dL_law_711 (fun σ1 k1 h => ?_)
  refine l_istore (lv' := [(5, .inl k1), (0, .inr (.inr 1000)), (1, .inr (.inr 0)), (2, .inr (.inr 72)), (3, .inr (.inr 117)), (4, .inl i)]) ok dL_law_714 (by decide) rfl ?_
  refine l_aload_n ok dL_law_716 3 rfl ?_
  refine l_callVI (st := []) ok ⟨by show _ ≤ 1165; omega, by show _ ≤ 30866; omega⟩ cs_L_153 kW_72 rfl (fr_I sub_M (inj_ok ok) (A_ok ok sub_M) (c_X10_back X.2.1 (Ysub Y 72 KM.length) (Ysub_D sub_M (inj_ok ok)) h)) ⟨rfl, rfl, Nat.le_of_ble_eq_true rfl, Nat.le_of_ble_eq_true rfl⟩ rfl rfl (Nat.le_of_ble_eq_true rfl) dL_law_717 (fun σ2 r1 h => ?_)
  obtain ⟨u1, h, hu1⟩ := h
  have h := h σ2 hu1
  refine l_istore (lv' := [(6, .inl r1), (5, .inl k1), (0, .inr (.inr 1000)), (1, .inr (.inr 0)), (2, .inr (.inr 72)), (3, .inr (.inr 117)), (4, .inl i)]) ok dL_law_720 (by decide) rfl ?_
  refine l_aload_n ok dL_law_722 4 rfl ?_
  refine l_callVI (st := []) ok ⟨by show _ ≤ 1165; omega, by show _ ≤ 30866; omega⟩ cs_L_115 kW_72 rfl (fr_I sub_M (inj_ok ok) (A_ok ok sub_M) (c_X10_thrown X.2.1 (Ysub Y 72 KM.length) (Ysub_D sub_M (inj_ok ok)) h)) ⟨rfl, rfl, Nat.le_of_ble_eq_true rfl, Nat.le_of_ble_eq_true rfl⟩ rfl rfl (Nat.le_of_ble_eq_true rfl) dL_law_723 (fun σ3 r2 h => ?_)
  obtain ⟨u2, h, hu2⟩ := h
  have h := h σ3 hu2
  refine l_iload ok dL_law_726 1 rfl ?_
  obtain ⟨g1, g2, hA3a, hA3b⟩ := h
  refine l_icmp_eq (tgt := 733) ok dL_law_728 (by decide) g1 g2 (fun c3 => ?_) (fun c3 => ?_)
  · have h := hA3a c3
    refine l_iload ok dL_law_733 1 rfl ?_
    obtain ⟨g3, hA2a, hA2b⟩ := h
    refine l_if_ne (tgt := 750) ok dL_law_735 (by decide) g3 (fun c2 => ?_) (fun c2 => ?_)
    · have h := hA2a c2
      refine l_goto (tgt := 1908) ok dL_law_750 (by decide) ?_
      refine l_sub [2, 3, 4, 5, 6] rfl ?_
      exact hk σ3 h
    · have h := hA2b c2
      refine l_aload_n ok dL_law_738 5 rfl ?_
      refine l_iconst ok dL_law_739 ?_
      refine l_lald ok kW_ok kW_117 (by decide) (by decide) dL_law_740 ?_
      refine l_iload ok dL_law_741 0 rfl ?_
      refine l_i2l ok dL_law_743 ?_
      refine l_lcmp ok dL_law_744 ?_
      obtain ⟨g4, hA1a, hA1b⟩ := h
      refine l_if_eq (tgt := 750) ok dL_law_745 (by decide) g4 (fun c1 => ?_) (fun c1 => ?_)
      · have h := hA1a c1
        refine l_goto (tgt := 1908) ok dL_law_750 (by decide) ?_
        refine l_sub [2, 3, 4, 5, 6] rfl ?_
        exact hk σ3 h
      · have h := hA1b c1
        exact h.elim
  · have h := hA3b c3
    exact h.elim
def f_W_12 (xs : Nat → Int32) (i : Int) (σ : St) (k : St → Prop) : Prop :=
  f_X9_status (ssub σ 0) (fun u1 r1 => ∀ σ1 : St, σ1 = mC σ u1 → f_X10_status (ssub σ1 72) (fun u2 r2 => ∀ σ2 : St, σ2 = mM σ1 u2 → inR r1 ∧ inR r2 ∧ ((r1 = r2 → k σ2) ∧ (¬ r1 = r2 → False))))
set_option maxRecDepth 100000 in
set_option maxHeartbeats 4000000 in
theorem w_W_12 {X : Cx} {Y : Cy} {Q : State → Prop} {kc ks b0 L : Nat} {xs : Nat → Int32} {i : Int} {σ : St} {k : St → Prop} (ol : OL X Y b0 L xs) (hi : 0 ≤ i) (hi2 : i + 2 < L) (hb : kc + 1 ≤ 1165 ∧ ks + 6 ≤ 30866) (hk : ∀ σ', k σ' → Lq X Y KW 7 Q (kc + 1) (ks + 6) σ' 1908 [(0, .inr (.inr 1000)), (1, .inr (.inr 0)), (2, .inr (.inr 72)), (3, .inr (.inr 117)), (4, .inl i)] []) (h : f_W_12 xs i σ k) : Lq X Y KW 7 Q kc ks σ 753 [(0, .inr (.inr 1000)), (1, .inr (.inr 0)), (2, .inr (.inr 72)), (3, .inr (.inr 117)), (4, .inl i)] [] := by
  have ok : Ok X Y KW cL_law 7 RL room_1 ret := ol.1
  have hL := ol.2.2.2.2.2.2.2
  unfold f_W_12 at h
  refine l_aload_n ok dL_law_753 1 rfl ?_
  refine l_callVI (st := []) ok ⟨by show _ ≤ 1165; omega, by show _ ≤ 30866; omega⟩ cs_L_154 kW_0 rfl (fr_I sub_C (inj_ok ok) (A_ok ok sub_C) (c_X9_status X.2.1 (Ysub Y 0 KC.length) (Ysub_D sub_C (inj_ok ok)) h)) ⟨rfl, rfl, Nat.le_of_ble_eq_true rfl, Nat.le_of_ble_eq_true rfl⟩ rfl rfl (Nat.le_of_ble_eq_true rfl) dL_law_754 (fun σ1 r1 h => ?_)
  obtain ⟨u1, h, hu1⟩ := h
  have h := h σ1 hu1
  refine l_aload_n ok dL_law_757 2 rfl ?_
  refine l_callVI (st := [.inl r1]) ok ⟨by show _ ≤ 1165; omega, by show _ ≤ 30866; omega⟩ cs_L_157 kW_72 rfl (fr_I sub_M (inj_ok ok) (A_ok ok sub_M) (c_X10_status X.2.1 (Ysub Y 72 KM.length) (Ysub_D sub_M (inj_ok ok)) h)) ⟨rfl, rfl, Nat.le_of_ble_eq_true rfl, Nat.le_of_ble_eq_true rfl⟩ rfl rfl (Nat.le_of_ble_eq_true rfl) dL_law_758 (fun σ2 r2 h => ?_)
  obtain ⟨u2, h, hu2⟩ := h
  have h := h σ2 hu2
  obtain ⟨g1, g2, hA1a, hA1b⟩ := h
  refine l_icmp_eq (tgt := 1908) ok dL_law_761 (by decide) g1 g2 (fun c1 => ?_) (fun c1 => ?_)
  · have h := hA1a c1
    refine l_widen (Nat.le_succ kc) (Nat.le_add_right ks 6) ?_
    exact hk σ2 h
  · have h := hA1b c1
    exact h.elim
def f_W_13 (xs : Nat → Int32) (i : Int) (σ : St) (k : St → Prop) : Prop :=
  f_X9_ending (ssub σ 0) (fun u1 r1 => ∀ σ1 : St, σ1 = mC σ u1 → f_X10_ending (ssub σ1 72) (fun u2 r2 => ∀ σ2 : St, σ2 = mM σ1 u2 → inR r1 ∧ inR r2 ∧ ((r1 = r2 → k σ2) ∧ (¬ r1 = r2 → False))))
set_option maxRecDepth 100000 in
set_option maxHeartbeats 4000000 in
theorem w_W_13 {X : Cx} {Y : Cy} {Q : State → Prop} {kc ks b0 L : Nat} {xs : Nat → Int32} {i : Int} {σ : St} {k : St → Prop} (ol : OL X Y b0 L xs) (hi : 0 ≤ i) (hi2 : i + 2 < L) (hb : kc + 1 ≤ 1165 ∧ ks + 6 ≤ 30866) (hk : ∀ σ', k σ' → Lq X Y KW 7 Q (kc + 1) (ks + 6) σ' 1908 [(0, .inr (.inr 1000)), (1, .inr (.inr 0)), (2, .inr (.inr 72)), (3, .inr (.inr 117)), (4, .inl i)] []) (h : f_W_13 xs i σ k) : Lq X Y KW 7 Q kc ks σ 766 [(0, .inr (.inr 1000)), (1, .inr (.inr 0)), (2, .inr (.inr 72)), (3, .inr (.inr 117)), (4, .inl i)] [] := by
  have ok : Ok X Y KW cL_law 7 RL room_1 ret := ol.1
  have hL := ol.2.2.2.2.2.2.2
  unfold f_W_13 at h
  refine l_aload_n ok dL_law_766 1 rfl ?_
  refine l_callVI (st := []) ok ⟨by show _ ≤ 1165; omega, by show _ ≤ 30866; omega⟩ cs_L_158 kW_0 rfl (fr_I sub_C (inj_ok ok) (A_ok ok sub_C) (c_X9_ending X.2.1 (Ysub Y 0 KC.length) (Ysub_D sub_C (inj_ok ok)) h)) ⟨rfl, rfl, Nat.le_of_ble_eq_true rfl, Nat.le_of_ble_eq_true rfl⟩ rfl rfl (Nat.le_of_ble_eq_true rfl) dL_law_767 (fun σ1 r1 h => ?_)
  obtain ⟨u1, h, hu1⟩ := h
  have h := h σ1 hu1
  refine l_aload_n ok dL_law_770 2 rfl ?_
  refine l_callVI (st := [.inl r1]) ok ⟨by show _ ≤ 1165; omega, by show _ ≤ 30866; omega⟩ cs_L_161 kW_72 rfl (fr_I sub_M (inj_ok ok) (A_ok ok sub_M) (c_X10_ending X.2.1 (Ysub Y 72 KM.length) (Ysub_D sub_M (inj_ok ok)) h)) ⟨rfl, rfl, Nat.le_of_ble_eq_true rfl, Nat.le_of_ble_eq_true rfl⟩ rfl rfl (Nat.le_of_ble_eq_true rfl) dL_law_771 (fun σ2 r2 h => ?_)
  obtain ⟨u2, h, hu2⟩ := h
  have h := h σ2 hu2
  obtain ⟨g1, g2, hA1a, hA1b⟩ := h
  refine l_icmp_eq (tgt := 1908) ok dL_law_774 (by decide) g1 g2 (fun c1 => ?_) (fun c1 => ?_)
  · have h := hA1a c1
    refine l_widen (Nat.le_succ kc) (Nat.le_add_right ks 6) ?_
    exact hk σ2 h
  · have h := hA1b c1
    exact h.elim
def f_W_14 (xs : Nat → Int32) (i : Int) (σ : St) (k : St → Prop) : Prop :=
  f_X9_node (ssub σ 0) (fun u1 r1 => ∀ σ1 : St, σ1 = mC σ u1 → f_X10_node (ssub σ1 72) (fun u2 r2 => ∀ σ2 : St, σ2 = mM σ1 u2 → inR r1 ∧ inR r2 ∧ ((r1 = r2 → k σ2) ∧ (¬ r1 = r2 → False))))
set_option maxRecDepth 100000 in
set_option maxHeartbeats 4000000 in
theorem w_W_14 {X : Cx} {Y : Cy} {Q : State → Prop} {kc ks b0 L : Nat} {xs : Nat → Int32} {i : Int} {σ : St} {k : St → Prop} (ol : OL X Y b0 L xs) (hi : 0 ≤ i) (hi2 : i + 2 < L) (hb : kc + 1 ≤ 1165 ∧ ks + 6 ≤ 30866) (hk : ∀ σ', k σ' → Lq X Y KW 7 Q (kc + 1) (ks + 6) σ' 1908 [(0, .inr (.inr 1000)), (1, .inr (.inr 0)), (2, .inr (.inr 72)), (3, .inr (.inr 117)), (4, .inl i)] []) (h : f_W_14 xs i σ k) : Lq X Y KW 7 Q kc ks σ 779 [(0, .inr (.inr 1000)), (1, .inr (.inr 0)), (2, .inr (.inr 72)), (3, .inr (.inr 117)), (4, .inl i)] [] := by
  have ok : Ok X Y KW cL_law 7 RL room_1 ret := ol.1
  have hL := ol.2.2.2.2.2.2.2
  unfold f_W_14 at h
  refine l_aload_n ok dL_law_779 1 rfl ?_
  refine l_callVI (st := []) ok ⟨by show _ ≤ 1165; omega, by show _ ≤ 30866; omega⟩ cs_L_162 kW_0 rfl (fr_I sub_C (inj_ok ok) (A_ok ok sub_C) (c_X9_node X.2.1 (Ysub Y 0 KC.length) (Ysub_D sub_C (inj_ok ok)) h)) ⟨rfl, rfl, Nat.le_of_ble_eq_true rfl, Nat.le_of_ble_eq_true rfl⟩ rfl rfl (Nat.le_of_ble_eq_true rfl) dL_law_780 (fun σ1 r1 h => ?_)
  obtain ⟨u1, h, hu1⟩ := h
  have h := h σ1 hu1
  refine l_aload_n ok dL_law_783 2 rfl ?_
  refine l_callVI (st := [.inl r1]) ok ⟨by show _ ≤ 1165; omega, by show _ ≤ 30866; omega⟩ cs_L_165 kW_72 rfl (fr_I sub_M (inj_ok ok) (A_ok ok sub_M) (c_X10_node X.2.1 (Ysub Y 72 KM.length) (Ysub_D sub_M (inj_ok ok)) h)) ⟨rfl, rfl, Nat.le_of_ble_eq_true rfl, Nat.le_of_ble_eq_true rfl⟩ rfl rfl (Nat.le_of_ble_eq_true rfl) dL_law_784 (fun σ2 r2 h => ?_)
  obtain ⟨u2, h, hu2⟩ := h
  have h := h σ2 hu2
  obtain ⟨g1, g2, hA1a, hA1b⟩ := h
  refine l_icmp_eq (tgt := 1908) ok dL_law_787 (by decide) g1 g2 (fun c1 => ?_) (fun c1 => ?_)
  · have h := hA1a c1
    refine l_widen (Nat.le_succ kc) (Nat.le_add_right ks 6) ?_
    exact hk σ2 h
  · have h := hA1b c1
    exact h.elim
def f_W_15 (xs : Nat → Int32) (i : Int) (σ : St) (k : St → Prop) : Prop :=
  f_X9_hub (ssub σ 0) (fun u1 r1 => ∀ σ1 : St, σ1 = mC σ u1 → f_X10_hub (ssub σ1 72) (fun u2 r2 => ∀ σ2 : St, σ2 = mM σ1 u2 → inR r1 ∧ inR r2 ∧ ((r1 = r2 → k σ2) ∧ (¬ r1 = r2 → False))))
set_option maxRecDepth 100000 in
set_option maxHeartbeats 4000000 in
theorem w_W_15 {X : Cx} {Y : Cy} {Q : State → Prop} {kc ks b0 L : Nat} {xs : Nat → Int32} {i : Int} {σ : St} {k : St → Prop} (ol : OL X Y b0 L xs) (hi : 0 ≤ i) (hi2 : i + 2 < L) (hb : kc + 1 ≤ 1165 ∧ ks + 6 ≤ 30866) (hk : ∀ σ', k σ' → Lq X Y KW 7 Q (kc + 1) (ks + 6) σ' 1908 [(0, .inr (.inr 1000)), (1, .inr (.inr 0)), (2, .inr (.inr 72)), (3, .inr (.inr 117)), (4, .inl i)] []) (h : f_W_15 xs i σ k) : Lq X Y KW 7 Q kc ks σ 792 [(0, .inr (.inr 1000)), (1, .inr (.inr 0)), (2, .inr (.inr 72)), (3, .inr (.inr 117)), (4, .inl i)] [] := by
  have ok : Ok X Y KW cL_law 7 RL room_1 ret := ol.1
  have hL := ol.2.2.2.2.2.2.2
  unfold f_W_15 at h
  refine l_aload_n ok dL_law_792 1 rfl ?_
  refine l_callVI (st := []) ok ⟨by show _ ≤ 1165; omega, by show _ ≤ 30866; omega⟩ cs_L_166 kW_0 rfl (fr_I sub_C (inj_ok ok) (A_ok ok sub_C) (c_X9_hub X.2.1 (Ysub Y 0 KC.length) (Ysub_D sub_C (inj_ok ok)) h)) ⟨rfl, rfl, Nat.le_of_ble_eq_true rfl, Nat.le_of_ble_eq_true rfl⟩ rfl rfl (Nat.le_of_ble_eq_true rfl) dL_law_793 (fun σ1 r1 h => ?_)
  obtain ⟨u1, h, hu1⟩ := h
  have h := h σ1 hu1
  refine l_aload_n ok dL_law_796 2 rfl ?_
  refine l_callVI (st := [.inl r1]) ok ⟨by show _ ≤ 1165; omega, by show _ ≤ 30866; omega⟩ cs_L_169 kW_72 rfl (fr_I sub_M (inj_ok ok) (A_ok ok sub_M) (c_X10_hub X.2.1 (Ysub Y 72 KM.length) (Ysub_D sub_M (inj_ok ok)) h)) ⟨rfl, rfl, Nat.le_of_ble_eq_true rfl, Nat.le_of_ble_eq_true rfl⟩ rfl rfl (Nat.le_of_ble_eq_true rfl) dL_law_797 (fun σ2 r2 h => ?_)
  obtain ⟨u2, h, hu2⟩ := h
  have h := h σ2 hu2
  obtain ⟨g1, g2, hA1a, hA1b⟩ := h
  refine l_icmp_eq (tgt := 1908) ok dL_law_800 (by decide) g1 g2 (fun c1 => ?_) (fun c1 => ?_)
  · have h := hA1a c1
    refine l_widen (Nat.le_succ kc) (Nat.le_add_right ks 6) ?_
    exact hk σ2 h
  · have h := hA1b c1
    exact h.elim
def f_W_16 (xs : Nat → Int32) (i : Int) (σ : St) (k : St → Prop) : Prop :=
  f_X9_offered (ssub σ 0) (fun u1 r1 => ∀ σ1 : St, σ1 = mC σ u1 → f_X10_offered (ssub σ1 72) (fun u2 r2 => ∀ σ2 : St, σ2 = mM σ1 u2 → inR r1 ∧ inR r2 ∧ ((r1 = r2 → k σ2) ∧ (¬ r1 = r2 → False))))
set_option maxRecDepth 100000 in
set_option maxHeartbeats 4000000 in
theorem w_W_16 {X : Cx} {Y : Cy} {Q : State → Prop} {kc ks b0 L : Nat} {xs : Nat → Int32} {i : Int} {σ : St} {k : St → Prop} (ol : OL X Y b0 L xs) (hi : 0 ≤ i) (hi2 : i + 2 < L) (hb : kc + 1 ≤ 1165 ∧ ks + 6 ≤ 30866) (hk : ∀ σ', k σ' → Lq X Y KW 7 Q (kc + 1) (ks + 6) σ' 1908 [(0, .inr (.inr 1000)), (1, .inr (.inr 0)), (2, .inr (.inr 72)), (3, .inr (.inr 117)), (4, .inl i)] []) (h : f_W_16 xs i σ k) : Lq X Y KW 7 Q kc ks σ 805 [(0, .inr (.inr 1000)), (1, .inr (.inr 0)), (2, .inr (.inr 72)), (3, .inr (.inr 117)), (4, .inl i)] [] := by
  have ok : Ok X Y KW cL_law 7 RL room_1 ret := ol.1
  have hL := ol.2.2.2.2.2.2.2
  unfold f_W_16 at h
  refine l_aload_n ok dL_law_805 1 rfl ?_
  refine l_callVI (st := []) ok ⟨by show _ ≤ 1165; omega, by show _ ≤ 30866; omega⟩ cs_L_170 kW_0 rfl (fr_I sub_C (inj_ok ok) (A_ok ok sub_C) (c_X9_offered X.2.1 (Ysub Y 0 KC.length) (Ysub_D sub_C (inj_ok ok)) h)) ⟨rfl, rfl, Nat.le_of_ble_eq_true rfl, Nat.le_of_ble_eq_true rfl⟩ rfl rfl (Nat.le_of_ble_eq_true rfl) dL_law_806 (fun σ1 r1 h => ?_)
  obtain ⟨u1, h, hu1⟩ := h
  have h := h σ1 hu1
  refine l_aload_n ok dL_law_809 2 rfl ?_
  refine l_callVI (st := [.inl r1]) ok ⟨by show _ ≤ 1165; omega, by show _ ≤ 30866; omega⟩ cs_L_173 kW_72 rfl (fr_I sub_M (inj_ok ok) (A_ok ok sub_M) (c_X10_offered X.2.1 (Ysub Y 72 KM.length) (Ysub_D sub_M (inj_ok ok)) h)) ⟨rfl, rfl, Nat.le_of_ble_eq_true rfl, Nat.le_of_ble_eq_true rfl⟩ rfl rfl (Nat.le_of_ble_eq_true rfl) dL_law_810 (fun σ2 r2 h => ?_)
  obtain ⟨u2, h, hu2⟩ := h
  have h := h σ2 hu2
  obtain ⟨g1, g2, hA1a, hA1b⟩ := h
  refine l_icmp_eq (tgt := 1908) ok dL_law_813 (by decide) g1 g2 (fun c1 => ?_) (fun c1 => ?_)
  · have h := hA1a c1
    refine l_widen (Nat.le_succ kc) (Nat.le_add_right ks 6) ?_
    exact hk σ2 h
  · have h := hA1b c1
    exact h.elim
def f_W_17 (xs : Nat → Int32) (i : Int) (σ : St) (k : St → Prop) : Prop :=
  f_L_choice (xs (i + 1).toNat).toInt σ (fun σ1 k1 => f_X10_choice (xs (i + 1).toNat).toInt (ssub σ1 72) (fun u1 r1 => ∀ σ2 : St, σ2 = mM σ1 u1 → f_X10_thrown (ssub σ2 72) (fun u2 r2 => ∀ σ3 : St, σ3 = mM σ2 u2 → inR r2 ∧ inR k1 ∧ ((r2 = k1 → inR k1 ∧ ((¬ k1 = 0 → k σ3) ∧ (k1 = 0 → inR (lcmp64 (σ3 117 0) (i2l64 r1)) ∧ (((lcmp64 (σ3 117 0) (i2l64 r1)) = 0 → k σ3) ∧ (¬ (lcmp64 (σ3 117 0) (i2l64 r1)) = 0 → False))))) ∧ (¬ r2 = k1 → False)))))
set_option maxRecDepth 100000 in
set_option maxHeartbeats 4000000 in
theorem w_W_17 {X : Cx} {Y : Cy} {Q : State → Prop} {kc ks b0 L : Nat} {xs : Nat → Int32} {i : Int} {σ : St} {k : St → Prop} (ol : OL X Y b0 L xs) (hi : 0 ≤ i) (hi2 : i + 2 < L) (hb : kc + 1 ≤ 1165 ∧ ks + 6 ≤ 30866) (hk : ∀ σ', k σ' → Lq X Y KW 7 Q (kc + 1) (ks + 6) σ' 1908 [(0, .inr (.inr 1000)), (1, .inr (.inr 0)), (2, .inr (.inr 72)), (3, .inr (.inr 117)), (4, .inl i)] []) (h : f_W_17 xs i σ k) : Lq X Y KW 7 Q kc ks σ 818 [(0, .inr (.inr 1000)), (1, .inr (.inr 0)), (2, .inr (.inr 72)), (3, .inr (.inr 117)), (4, .inl i)] [] := by
  have ok : Ok X Y KW cL_law 7 RL room_1 ret := ol.1
  have hL := ol.2.2.2.2.2.2.2
  unfold f_W_17 at h
  refine l_aload_n ok dL_law_818 1 rfl ?_
  refine l_aload_n ok dL_law_819 0 rfl ?_
  refine l_iload ok dL_law_820 4 rfl ?_
  refine l_iconst ok dL_law_822 ?_
  refine l_iadd ok dL_law_823 ?_
  refine l_sld ok ol.2.2.2.1 ol.2.2.2.2.1 ol.2.2.2.2.2.1 ol.2.2.2.2.2.2.1 (by omega) (by omega) (by omega) dL_law_824 ?_
  refine l_aload_n ok dL_law_825 3 rfl ?_
  refine l_help (st := []) ok ol.2.2.1 hs_L_174 (c_L_choice X.2.1 ol.2.1 Y ok.2.2.2.2.2.2.2.2 h) ⟨rfl, rfl, Nat.le_of_ble_eq_true rfl, Nat.le_of_ble_eq_true rfl⟩ hb rfl rfl (Nat.le_of_ble_eq_true rfl) dL_law_826 (fun σ1 k1 h => ?_)
  refine l_istore (lv' := [(5, .inl k1), (0, .inr (.inr 1000)), (1, .inr (.inr 0)), (2, .inr (.inr 72)), (3, .inr (.inr 117)), (4, .inl i)]) ok dL_law_829 (by decide) rfl ?_
  refine l_aload_n ok dL_law_831 3 rfl ?_
  refine l_aload_n ok dL_law_832 1 rfl ?_
  refine l_iload ok dL_law_833 5 rfl ?_
  refine l_iconst ok dL_law_835 ?_
  refine l_iadd ok dL_law_836 ?_
  refine l_sld ok ol.2.2.2.1 ol.2.2.2.2.1 ol.2.2.2.2.2.1 ol.2.2.2.2.2.2.1 (by omega) (by omega) (by omega) dL_law_837 ?_
  refine l_callVI (st := []) ok ⟨by show _ ≤ 1165; omega, by show _ ≤ 30866; omega⟩ cs_L_176 kW_72 rfl (fr_I sub_M (inj_ok ok) (A_ok ok sub_M) (c_X10_choice X.2.1 (Ysub Y 72 KM.length) (Ysub_D sub_M (inj_ok ok)) h)) ⟨rfl, rfl, Nat.le_of_ble_eq_true rfl, Nat.le_of_ble_eq_true rfl⟩ rfl rfl (Nat.le_of_ble_eq_true rfl) dL_law_838 (fun σ2 r1 h => ?_)
  obtain ⟨u1, h, hu1⟩ := h
  have h := h σ2 hu1
  refine l_istore (lv' := [(6, .inl r1), (5, .inl k1), (0, .inr (.inr 1000)), (1, .inr (.inr 0)), (2, .inr (.inr 72)), (3, .inr (.inr 117)), (4, .inl i)]) ok dL_law_841 (by decide) rfl ?_
  refine l_aload_n ok dL_law_843 4 rfl ?_
  refine l_callVI (st := []) ok ⟨by show _ ≤ 1165; omega, by show _ ≤ 30866; omega⟩ cs_L_115 kW_72 rfl (fr_I sub_M (inj_ok ok) (A_ok ok sub_M) (c_X10_thrown X.2.1 (Ysub Y 72 KM.length) (Ysub_D sub_M (inj_ok ok)) h)) ⟨rfl, rfl, Nat.le_of_ble_eq_true rfl, Nat.le_of_ble_eq_true rfl⟩ rfl rfl (Nat.le_of_ble_eq_true rfl) dL_law_844 (fun σ3 r2 h => ?_)
  obtain ⟨u2, h, hu2⟩ := h
  have h := h σ3 hu2
  refine l_iload ok dL_law_847 1 rfl ?_
  obtain ⟨g1, g2, hA3a, hA3b⟩ := h
  refine l_icmp_eq (tgt := 854) ok dL_law_849 (by decide) g1 g2 (fun c3 => ?_) (fun c3 => ?_)
  · have h := hA3a c3
    refine l_iload ok dL_law_854 1 rfl ?_
    obtain ⟨g3, hA2a, hA2b⟩ := h
    refine l_if_ne (tgt := 871) ok dL_law_856 (by decide) g3 (fun c2 => ?_) (fun c2 => ?_)
    · have h := hA2a c2
      refine l_goto (tgt := 1908) ok dL_law_871 (by decide) ?_
      refine l_sub [2, 3, 4, 5, 6] rfl ?_
      exact hk σ3 h
    · have h := hA2b c2
      refine l_aload_n ok dL_law_859 5 rfl ?_
      refine l_iconst ok dL_law_860 ?_
      refine l_lald ok kW_ok kW_117 (by decide) (by decide) dL_law_861 ?_
      refine l_iload ok dL_law_862 0 rfl ?_
      refine l_i2l ok dL_law_864 ?_
      refine l_lcmp ok dL_law_865 ?_
      obtain ⟨g4, hA1a, hA1b⟩ := h
      refine l_if_eq (tgt := 871) ok dL_law_866 (by decide) g4 (fun c1 => ?_) (fun c1 => ?_)
      · have h := hA1a c1
        refine l_goto (tgt := 1908) ok dL_law_871 (by decide) ?_
        refine l_sub [2, 3, 4, 5, 6] rfl ?_
        exact hk σ3 h
      · have h := hA1b c1
        exact h.elim
  · have h := hA3b c3
    exact h.elim
def f_W_18 (xs : Nat → Int32) (i : Int) (σ : St) (k : St → Prop) : Prop :=
  f_L_flag (xs (i + 1).toNat).toInt σ (fun σ1 k1 => f_X10_flag (xs (i + 1).toNat).toInt (ssub σ1 72) (fun u1 r1 => ∀ σ2 : St, σ2 = mM σ1 u1 → f_X10_thrown (ssub σ2 72) (fun u2 r2 => ∀ σ3 : St, σ3 = mM σ2 u2 → inR r2 ∧ inR k1 ∧ ((r2 = k1 → inR k1 ∧ ((¬ k1 = 0 → k σ3) ∧ (k1 = 0 → inR (lcmp64 (σ3 117 0) (i2l64 r1)) ∧ (((lcmp64 (σ3 117 0) (i2l64 r1)) = 0 → k σ3) ∧ (¬ (lcmp64 (σ3 117 0) (i2l64 r1)) = 0 → False))))) ∧ (¬ r2 = k1 → False)))))
set_option maxRecDepth 100000 in
set_option maxHeartbeats 4000000 in
theorem w_W_18 {X : Cx} {Y : Cy} {Q : State → Prop} {kc ks b0 L : Nat} {xs : Nat → Int32} {i : Int} {σ : St} {k : St → Prop} (ol : OL X Y b0 L xs) (hi : 0 ≤ i) (hi2 : i + 2 < L) (hb : kc + 1 ≤ 1165 ∧ ks + 6 ≤ 30866) (hk : ∀ σ', k σ' → Lq X Y KW 7 Q (kc + 1) (ks + 6) σ' 1908 [(0, .inr (.inr 1000)), (1, .inr (.inr 0)), (2, .inr (.inr 72)), (3, .inr (.inr 117)), (4, .inl i)] []) (h : f_W_18 xs i σ k) : Lq X Y KW 7 Q kc ks σ 874 [(0, .inr (.inr 1000)), (1, .inr (.inr 0)), (2, .inr (.inr 72)), (3, .inr (.inr 117)), (4, .inl i)] [] := by
  have ok : Ok X Y KW cL_law 7 RL room_1 ret := ol.1
  have hL := ol.2.2.2.2.2.2.2
  unfold f_W_18 at h
  refine l_aload_n ok dL_law_874 1 rfl ?_
  refine l_aload_n ok dL_law_875 0 rfl ?_
  refine l_iload ok dL_law_876 4 rfl ?_
  refine l_iconst ok dL_law_878 ?_
  refine l_iadd ok dL_law_879 ?_
  refine l_sld ok ol.2.2.2.1 ol.2.2.2.2.1 ol.2.2.2.2.2.1 ol.2.2.2.2.2.2.1 (by omega) (by omega) (by omega) dL_law_880 ?_
  refine l_aload_n ok dL_law_881 3 rfl ?_
  refine l_help (st := []) ok ol.2.2.1 hs_L_177 (c_L_flag X.2.1 ol.2.1 Y ok.2.2.2.2.2.2.2.2 h) ⟨rfl, rfl, Nat.le_of_ble_eq_true rfl, Nat.le_of_ble_eq_true rfl⟩ hb rfl rfl (Nat.le_of_ble_eq_true rfl) dL_law_882 (fun σ1 k1 h => ?_)
  refine l_istore (lv' := [(5, .inl k1), (0, .inr (.inr 1000)), (1, .inr (.inr 0)), (2, .inr (.inr 72)), (3, .inr (.inr 117)), (4, .inl i)]) ok dL_law_885 (by decide) rfl ?_
  refine l_aload_n ok dL_law_887 3 rfl ?_
  refine l_aload_n ok dL_law_888 1 rfl ?_
  refine l_iload ok dL_law_889 5 rfl ?_
  refine l_iconst ok dL_law_891 ?_
  refine l_iadd ok dL_law_892 ?_
  refine l_sld ok ol.2.2.2.1 ol.2.2.2.2.1 ol.2.2.2.2.2.1 ol.2.2.2.2.2.2.1 (by omega) (by omega) (by omega) dL_law_893 ?_
  refine l_callVI (st := []) ok ⟨by show _ ≤ 1165; omega, by show _ ≤ 30866; omega⟩ cs_L_179 kW_72 rfl (fr_I sub_M (inj_ok ok) (A_ok ok sub_M) (c_X10_flag X.2.1 (Ysub Y 72 KM.length) (Ysub_D sub_M (inj_ok ok)) h)) ⟨rfl, rfl, Nat.le_of_ble_eq_true rfl, Nat.le_of_ble_eq_true rfl⟩ rfl rfl (Nat.le_of_ble_eq_true rfl) dL_law_894 (fun σ2 r1 h => ?_)
  obtain ⟨u1, h, hu1⟩ := h
  have h := h σ2 hu1
  refine l_istore (lv' := [(6, .inl r1), (5, .inl k1), (0, .inr (.inr 1000)), (1, .inr (.inr 0)), (2, .inr (.inr 72)), (3, .inr (.inr 117)), (4, .inl i)]) ok dL_law_897 (by decide) rfl ?_
  refine l_aload_n ok dL_law_899 4 rfl ?_
  refine l_callVI (st := []) ok ⟨by show _ ≤ 1165; omega, by show _ ≤ 30866; omega⟩ cs_L_115 kW_72 rfl (fr_I sub_M (inj_ok ok) (A_ok ok sub_M) (c_X10_thrown X.2.1 (Ysub Y 72 KM.length) (Ysub_D sub_M (inj_ok ok)) h)) ⟨rfl, rfl, Nat.le_of_ble_eq_true rfl, Nat.le_of_ble_eq_true rfl⟩ rfl rfl (Nat.le_of_ble_eq_true rfl) dL_law_900 (fun σ3 r2 h => ?_)
  obtain ⟨u2, h, hu2⟩ := h
  have h := h σ3 hu2
  refine l_iload ok dL_law_903 1 rfl ?_
  obtain ⟨g1, g2, hA3a, hA3b⟩ := h
  refine l_icmp_eq (tgt := 910) ok dL_law_905 (by decide) g1 g2 (fun c3 => ?_) (fun c3 => ?_)
  · have h := hA3a c3
    refine l_iload ok dL_law_910 1 rfl ?_
    obtain ⟨g3, hA2a, hA2b⟩ := h
    refine l_if_ne (tgt := 927) ok dL_law_912 (by decide) g3 (fun c2 => ?_) (fun c2 => ?_)
    · have h := hA2a c2
      refine l_goto (tgt := 1908) ok dL_law_927 (by decide) ?_
      refine l_sub [2, 3, 4, 5, 6] rfl ?_
      exact hk σ3 h
    · have h := hA2b c2
      refine l_aload_n ok dL_law_915 5 rfl ?_
      refine l_iconst ok dL_law_916 ?_
      refine l_lald ok kW_ok kW_117 (by decide) (by decide) dL_law_917 ?_
      refine l_iload ok dL_law_918 0 rfl ?_
      refine l_i2l ok dL_law_920 ?_
      refine l_lcmp ok dL_law_921 ?_
      obtain ⟨g4, hA1a, hA1b⟩ := h
      refine l_if_eq (tgt := 927) ok dL_law_922 (by decide) g4 (fun c1 => ?_) (fun c1 => ?_)
      · have h := hA1a c1
        refine l_goto (tgt := 1908) ok dL_law_927 (by decide) ?_
        refine l_sub [2, 3, 4, 5, 6] rfl ?_
        exact hk σ3 h
      · have h := hA1b c1
        exact h.elim
  · have h := hA3b c3
    exact h.elim
def f_W_19 (xs : Nat → Int32) (i : Int) (σ : St) (k : St → Prop) : Prop :=
  f_L_meter (xs (i + 1).toNat).toInt σ (fun σ1 k1 => f_X10_meter (xs (i + 1).toNat).toInt (ssub σ1 72) (fun u1 r1 => ∀ σ2 : St, σ2 = mM σ1 u1 → f_X10_thrown (ssub σ2 72) (fun u2 r2 => ∀ σ3 : St, σ3 = mM σ2 u2 → inR r2 ∧ inR k1 ∧ ((r2 = k1 → inR k1 ∧ ((¬ k1 = 0 → k σ3) ∧ (k1 = 0 → inR (lcmp64 (σ3 117 0) (i2l64 r1)) ∧ (((lcmp64 (σ3 117 0) (i2l64 r1)) = 0 → k σ3) ∧ (¬ (lcmp64 (σ3 117 0) (i2l64 r1)) = 0 → False))))) ∧ (¬ r2 = k1 → False)))))
set_option maxRecDepth 100000 in
set_option maxHeartbeats 4000000 in
theorem w_W_19 {X : Cx} {Y : Cy} {Q : State → Prop} {kc ks b0 L : Nat} {xs : Nat → Int32} {i : Int} {σ : St} {k : St → Prop} (ol : OL X Y b0 L xs) (hi : 0 ≤ i) (hi2 : i + 2 < L) (hb : kc + 1 ≤ 1165 ∧ ks + 6 ≤ 30866) (hk : ∀ σ', k σ' → Lq X Y KW 7 Q (kc + 1) (ks + 6) σ' 1908 [(0, .inr (.inr 1000)), (1, .inr (.inr 0)), (2, .inr (.inr 72)), (3, .inr (.inr 117)), (4, .inl i)] []) (h : f_W_19 xs i σ k) : Lq X Y KW 7 Q kc ks σ 930 [(0, .inr (.inr 1000)), (1, .inr (.inr 0)), (2, .inr (.inr 72)), (3, .inr (.inr 117)), (4, .inl i)] [] := by
  have ok : Ok X Y KW cL_law 7 RL room_1 ret := ol.1
  have hL := ol.2.2.2.2.2.2.2
  unfold f_W_19 at h
  refine l_aload_n ok dL_law_930 1 rfl ?_
  refine l_aload_n ok dL_law_931 0 rfl ?_
  refine l_iload ok dL_law_932 4 rfl ?_
  refine l_iconst ok dL_law_934 ?_
  refine l_iadd ok dL_law_935 ?_
  refine l_sld ok ol.2.2.2.1 ol.2.2.2.2.1 ol.2.2.2.2.2.1 ol.2.2.2.2.2.2.1 (by omega) (by omega) (by omega) dL_law_936 ?_
  refine l_aload_n ok dL_law_937 3 rfl ?_
  refine l_help (st := []) ok ol.2.2.1 hs_L_180 (c_L_meter X.2.1 ol.2.1 Y ok.2.2.2.2.2.2.2.2 h) ⟨rfl, rfl, Nat.le_of_ble_eq_true rfl, Nat.le_of_ble_eq_true rfl⟩ hb rfl rfl (Nat.le_of_ble_eq_true rfl) dL_law_938 (fun σ1 k1 h => ?_)
  refine l_istore (lv' := [(5, .inl k1), (0, .inr (.inr 1000)), (1, .inr (.inr 0)), (2, .inr (.inr 72)), (3, .inr (.inr 117)), (4, .inl i)]) ok dL_law_941 (by decide) rfl ?_
  refine l_aload_n ok dL_law_943 3 rfl ?_
  refine l_aload_n ok dL_law_944 1 rfl ?_
  refine l_iload ok dL_law_945 5 rfl ?_
  refine l_iconst ok dL_law_947 ?_
  refine l_iadd ok dL_law_948 ?_
  refine l_sld ok ol.2.2.2.1 ol.2.2.2.2.1 ol.2.2.2.2.2.1 ol.2.2.2.2.2.2.1 (by omega) (by omega) (by omega) dL_law_949 ?_
  refine l_callVI (st := []) ok ⟨by show _ ≤ 1165; omega, by show _ ≤ 30866; omega⟩ cs_L_182 kW_72 rfl (fr_I sub_M (inj_ok ok) (A_ok ok sub_M) (c_X10_meter X.2.1 (Ysub Y 72 KM.length) (Ysub_D sub_M (inj_ok ok)) h)) ⟨rfl, rfl, Nat.le_of_ble_eq_true rfl, Nat.le_of_ble_eq_true rfl⟩ rfl rfl (Nat.le_of_ble_eq_true rfl) dL_law_950 (fun σ2 r1 h => ?_)
  obtain ⟨u1, h, hu1⟩ := h
  have h := h σ2 hu1
  refine l_istore (lv' := [(6, .inl r1), (5, .inl k1), (0, .inr (.inr 1000)), (1, .inr (.inr 0)), (2, .inr (.inr 72)), (3, .inr (.inr 117)), (4, .inl i)]) ok dL_law_953 (by decide) rfl ?_
  refine l_aload_n ok dL_law_955 4 rfl ?_
  refine l_callVI (st := []) ok ⟨by show _ ≤ 1165; omega, by show _ ≤ 30866; omega⟩ cs_L_115 kW_72 rfl (fr_I sub_M (inj_ok ok) (A_ok ok sub_M) (c_X10_thrown X.2.1 (Ysub Y 72 KM.length) (Ysub_D sub_M (inj_ok ok)) h)) ⟨rfl, rfl, Nat.le_of_ble_eq_true rfl, Nat.le_of_ble_eq_true rfl⟩ rfl rfl (Nat.le_of_ble_eq_true rfl) dL_law_956 (fun σ3 r2 h => ?_)
  obtain ⟨u2, h, hu2⟩ := h
  have h := h σ3 hu2
  refine l_iload ok dL_law_959 1 rfl ?_
  obtain ⟨g1, g2, hA3a, hA3b⟩ := h
  refine l_icmp_eq (tgt := 966) ok dL_law_961 (by decide) g1 g2 (fun c3 => ?_) (fun c3 => ?_)
  · have h := hA3a c3
    refine l_iload ok dL_law_966 1 rfl ?_
    obtain ⟨g3, hA2a, hA2b⟩ := h
    refine l_if_ne (tgt := 983) ok dL_law_968 (by decide) g3 (fun c2 => ?_) (fun c2 => ?_)
    · have h := hA2a c2
      refine l_goto (tgt := 1908) ok dL_law_983 (by decide) ?_
      refine l_sub [2, 3, 4, 5, 6] rfl ?_
      exact hk σ3 h
    · have h := hA2b c2
      refine l_aload_n ok dL_law_971 5 rfl ?_
      refine l_iconst ok dL_law_972 ?_
      refine l_lald ok kW_ok kW_117 (by decide) (by decide) dL_law_973 ?_
      refine l_iload ok dL_law_974 0 rfl ?_
      refine l_i2l ok dL_law_976 ?_
      refine l_lcmp ok dL_law_977 ?_
      obtain ⟨g4, hA1a, hA1b⟩ := h
      refine l_if_eq (tgt := 983) ok dL_law_978 (by decide) g4 (fun c1 => ?_) (fun c1 => ?_)
      · have h := hA1a c1
        refine l_goto (tgt := 1908) ok dL_law_983 (by decide) ?_
        refine l_sub [2, 3, 4, 5, 6] rfl ?_
        exact hk σ3 h
      · have h := hA1b c1
        exact h.elim
  · have h := hA3b c3
    exact h.elim
def f_W_20 (xs : Nat → Int32) (i : Int) (σ : St) (k : St → Prop) : Prop :=
  f_X9_said (ssub σ 0) (fun u1 r1 => ∀ σ1 : St, σ1 = mC σ u1 → f_X10_said (ssub σ1 72) (fun u2 r2 => ∀ σ2 : St, σ2 = mM σ1 u2 → inR r1 ∧ inR r2 ∧ ((r1 = r2 → k σ2) ∧ (¬ r1 = r2 → False))))
set_option maxRecDepth 100000 in
set_option maxHeartbeats 4000000 in
theorem w_W_20 {X : Cx} {Y : Cy} {Q : State → Prop} {kc ks b0 L : Nat} {xs : Nat → Int32} {i : Int} {σ : St} {k : St → Prop} (ol : OL X Y b0 L xs) (hi : 0 ≤ i) (hi2 : i + 2 < L) (hb : kc + 1 ≤ 1165 ∧ ks + 6 ≤ 30866) (hk : ∀ σ', k σ' → Lq X Y KW 7 Q (kc + 1) (ks + 6) σ' 1908 [(0, .inr (.inr 1000)), (1, .inr (.inr 0)), (2, .inr (.inr 72)), (3, .inr (.inr 117)), (4, .inl i)] []) (h : f_W_20 xs i σ k) : Lq X Y KW 7 Q kc ks σ 986 [(0, .inr (.inr 1000)), (1, .inr (.inr 0)), (2, .inr (.inr 72)), (3, .inr (.inr 117)), (4, .inl i)] [] := by
  have ok : Ok X Y KW cL_law 7 RL room_1 ret := ol.1
  have hL := ol.2.2.2.2.2.2.2
  unfold f_W_20 at h
  refine l_aload_n ok dL_law_986 1 rfl ?_
  refine l_callVI (st := []) ok ⟨by show _ ≤ 1165; omega, by show _ ≤ 30866; omega⟩ cs_L_183 kW_0 rfl (fr_I sub_C (inj_ok ok) (A_ok ok sub_C) (c_X9_said X.2.1 (Ysub Y 0 KC.length) (Ysub_D sub_C (inj_ok ok)) h)) ⟨rfl, rfl, Nat.le_of_ble_eq_true rfl, Nat.le_of_ble_eq_true rfl⟩ rfl rfl (Nat.le_of_ble_eq_true rfl) dL_law_987 (fun σ1 r1 h => ?_)
  obtain ⟨u1, h, hu1⟩ := h
  have h := h σ1 hu1
  refine l_aload_n ok dL_law_990 2 rfl ?_
  refine l_callVI (st := [.inl r1]) ok ⟨by show _ ≤ 1165; omega, by show _ ≤ 30866; omega⟩ cs_L_186 kW_72 rfl (fr_I sub_M (inj_ok ok) (A_ok ok sub_M) (c_X10_said X.2.1 (Ysub Y 72 KM.length) (Ysub_D sub_M (inj_ok ok)) h)) ⟨rfl, rfl, Nat.le_of_ble_eq_true rfl, Nat.le_of_ble_eq_true rfl⟩ rfl rfl (Nat.le_of_ble_eq_true rfl) dL_law_991 (fun σ2 r2 h => ?_)
  obtain ⟨u2, h, hu2⟩ := h
  have h := h σ2 hu2
  obtain ⟨g1, g2, hA1a, hA1b⟩ := h
  refine l_icmp_eq (tgt := 1908) ok dL_law_994 (by decide) g1 g2 (fun c1 => ?_) (fun c1 => ?_)
  · have h := hA1a c1
    refine l_widen (Nat.le_succ kc) (Nat.le_add_right ks 6) ?_
    exact hk σ2 h
  · have h := hA1b c1
    exact h.elim
def f_W_21 (xs : Nat → Int32) (i : Int) (σ : St) (k : St → Prop) : Prop :=
  f_L_line (xs (i + 1).toNat).toInt σ (fun σ1 k1 => f_X10_line (xs (i + 1).toNat).toInt (ssub σ1 72) (fun u1 r1 => ∀ σ2 : St, σ2 = mM σ1 u1 → f_X10_thrown (ssub σ2 72) (fun u2 r2 => ∀ σ3 : St, σ3 = mM σ2 u2 → inR r2 ∧ inR k1 ∧ ((r2 = k1 → inR k1 ∧ ((¬ k1 = 0 → k σ3) ∧ (k1 = 0 → inR (lcmp64 (σ3 117 0) (i2l64 r1)) ∧ (((lcmp64 (σ3 117 0) (i2l64 r1)) = 0 → k σ3) ∧ (¬ (lcmp64 (σ3 117 0) (i2l64 r1)) = 0 → False))))) ∧ (¬ r2 = k1 → False)))))
set_option maxRecDepth 100000 in
set_option maxHeartbeats 4000000 in
theorem w_W_21 {X : Cx} {Y : Cy} {Q : State → Prop} {kc ks b0 L : Nat} {xs : Nat → Int32} {i : Int} {σ : St} {k : St → Prop} (ol : OL X Y b0 L xs) (hi : 0 ≤ i) (hi2 : i + 2 < L) (hb : kc + 1 ≤ 1165 ∧ ks + 6 ≤ 30866) (hk : ∀ σ', k σ' → Lq X Y KW 7 Q (kc + 1) (ks + 6) σ' 1908 [(0, .inr (.inr 1000)), (1, .inr (.inr 0)), (2, .inr (.inr 72)), (3, .inr (.inr 117)), (4, .inl i)] []) (h : f_W_21 xs i σ k) : Lq X Y KW 7 Q kc ks σ 999 [(0, .inr (.inr 1000)), (1, .inr (.inr 0)), (2, .inr (.inr 72)), (3, .inr (.inr 117)), (4, .inl i)] [] := by
  have ok : Ok X Y KW cL_law 7 RL room_1 ret := ol.1
  have hL := ol.2.2.2.2.2.2.2
  unfold f_W_21 at h
  refine l_aload_n ok dL_law_999 1 rfl ?_
  refine l_aload_n ok dL_law_1000 0 rfl ?_
  refine l_iload ok dL_law_1001 4 rfl ?_
  refine l_iconst ok dL_law_1003 ?_
  refine l_iadd ok dL_law_1004 ?_
  refine l_sld ok ol.2.2.2.1 ol.2.2.2.2.1 ol.2.2.2.2.2.1 ol.2.2.2.2.2.2.1 (by omega) (by omega) (by omega) dL_law_1005 ?_
  refine l_aload_n ok dL_law_1006 3 rfl ?_
  refine l_help (st := []) ok ol.2.2.1 hs_L_187 (c_L_line X.2.1 ol.2.1 Y ok.2.2.2.2.2.2.2.2 h) ⟨rfl, rfl, Nat.le_of_ble_eq_true rfl, Nat.le_of_ble_eq_true rfl⟩ hb rfl rfl (Nat.le_of_ble_eq_true rfl) dL_law_1007 (fun σ1 k1 h => ?_)
  refine l_istore (lv' := [(5, .inl k1), (0, .inr (.inr 1000)), (1, .inr (.inr 0)), (2, .inr (.inr 72)), (3, .inr (.inr 117)), (4, .inl i)]) ok dL_law_1010 (by decide) rfl ?_
  refine l_aload_n ok dL_law_1012 3 rfl ?_
  refine l_aload_n ok dL_law_1013 1 rfl ?_
  refine l_iload ok dL_law_1014 5 rfl ?_
  refine l_iconst ok dL_law_1016 ?_
  refine l_iadd ok dL_law_1017 ?_
  refine l_sld ok ol.2.2.2.1 ol.2.2.2.2.1 ol.2.2.2.2.2.1 ol.2.2.2.2.2.2.1 (by omega) (by omega) (by omega) dL_law_1018 ?_
  refine l_callVI (st := []) ok ⟨by show _ ≤ 1165; omega, by show _ ≤ 30866; omega⟩ cs_L_189 kW_72 rfl (fr_I sub_M (inj_ok ok) (A_ok ok sub_M) (c_X10_line X.2.1 (Ysub Y 72 KM.length) (Ysub_D sub_M (inj_ok ok)) h)) ⟨rfl, rfl, Nat.le_of_ble_eq_true rfl, Nat.le_of_ble_eq_true rfl⟩ rfl rfl (Nat.le_of_ble_eq_true rfl) dL_law_1019 (fun σ2 r1 h => ?_)
  obtain ⟨u1, h, hu1⟩ := h
  have h := h σ2 hu1
  refine l_istore (lv' := [(6, .inl r1), (5, .inl k1), (0, .inr (.inr 1000)), (1, .inr (.inr 0)), (2, .inr (.inr 72)), (3, .inr (.inr 117)), (4, .inl i)]) ok dL_law_1022 (by decide) rfl ?_
  refine l_aload_n ok dL_law_1024 4 rfl ?_
  refine l_callVI (st := []) ok ⟨by show _ ≤ 1165; omega, by show _ ≤ 30866; omega⟩ cs_L_115 kW_72 rfl (fr_I sub_M (inj_ok ok) (A_ok ok sub_M) (c_X10_thrown X.2.1 (Ysub Y 72 KM.length) (Ysub_D sub_M (inj_ok ok)) h)) ⟨rfl, rfl, Nat.le_of_ble_eq_true rfl, Nat.le_of_ble_eq_true rfl⟩ rfl rfl (Nat.le_of_ble_eq_true rfl) dL_law_1025 (fun σ3 r2 h => ?_)
  obtain ⟨u2, h, hu2⟩ := h
  have h := h σ3 hu2
  refine l_iload ok dL_law_1028 1 rfl ?_
  obtain ⟨g1, g2, hA3a, hA3b⟩ := h
  refine l_icmp_eq (tgt := 1035) ok dL_law_1030 (by decide) g1 g2 (fun c3 => ?_) (fun c3 => ?_)
  · have h := hA3a c3
    refine l_iload ok dL_law_1035 1 rfl ?_
    obtain ⟨g3, hA2a, hA2b⟩ := h
    refine l_if_ne (tgt := 1052) ok dL_law_1037 (by decide) g3 (fun c2 => ?_) (fun c2 => ?_)
    · have h := hA2a c2
      refine l_goto (tgt := 1908) ok dL_law_1052 (by decide) ?_
      refine l_sub [2, 3, 4, 5, 6] rfl ?_
      exact hk σ3 h
    · have h := hA2b c2
      refine l_aload_n ok dL_law_1040 5 rfl ?_
      refine l_iconst ok dL_law_1041 ?_
      refine l_lald ok kW_ok kW_117 (by decide) (by decide) dL_law_1042 ?_
      refine l_iload ok dL_law_1043 0 rfl ?_
      refine l_i2l ok dL_law_1045 ?_
      refine l_lcmp ok dL_law_1046 ?_
      obtain ⟨g4, hA1a, hA1b⟩ := h
      refine l_if_eq (tgt := 1052) ok dL_law_1047 (by decide) g4 (fun c1 => ?_) (fun c1 => ?_)
      · have h := hA1a c1
        refine l_goto (tgt := 1908) ok dL_law_1052 (by decide) ?_
        refine l_sub [2, 3, 4, 5, 6] rfl ?_
        exact hk σ3 h
      · have h := hA1b c1
        exact h.elim
  · have h := hA3b c3
    exact h.elim
def f_W_22 (xs : Nat → Int32) (i : Int) (σ : St) (k : St → Prop) : Prop :=
  f_L_explore (xs (i + 1).toNat).toInt σ (fun σ1 k1 => f_X10_explore (xs (i + 1).toNat).toInt (ssub σ1 72) (fun u1 r1 => ∀ σ2 : St, σ2 = mM σ1 u1 → f_X10_thrown (ssub σ2 72) (fun u2 r2 => ∀ σ3 : St, σ3 = mM σ2 u2 → inR r2 ∧ inR k1 ∧ ((r2 = k1 → inR k1 ∧ ((¬ k1 = 0 → k σ3) ∧ (k1 = 0 → inR (lcmp64 (σ3 117 0) (i2l64 r1)) ∧ (((lcmp64 (σ3 117 0) (i2l64 r1)) = 0 → k σ3) ∧ (¬ (lcmp64 (σ3 117 0) (i2l64 r1)) = 0 → False))))) ∧ (¬ r2 = k1 → False)))))
set_option maxRecDepth 100000 in
set_option maxHeartbeats 4000000 in
theorem w_W_22 {X : Cx} {Y : Cy} {Q : State → Prop} {kc ks b0 L : Nat} {xs : Nat → Int32} {i : Int} {σ : St} {k : St → Prop} (ol : OL X Y b0 L xs) (hi : 0 ≤ i) (hi2 : i + 2 < L) (hb : kc + 1 ≤ 1165 ∧ ks + 6 ≤ 30866) (hk : ∀ σ', k σ' → Lq X Y KW 7 Q (kc + 1) (ks + 6) σ' 1908 [(0, .inr (.inr 1000)), (1, .inr (.inr 0)), (2, .inr (.inr 72)), (3, .inr (.inr 117)), (4, .inl i)] []) (h : f_W_22 xs i σ k) : Lq X Y KW 7 Q kc ks σ 1055 [(0, .inr (.inr 1000)), (1, .inr (.inr 0)), (2, .inr (.inr 72)), (3, .inr (.inr 117)), (4, .inl i)] [] := by
  have ok : Ok X Y KW cL_law 7 RL room_1 ret := ol.1
  have hL := ol.2.2.2.2.2.2.2
  unfold f_W_22 at h
  refine l_aload_n ok dL_law_1055 1 rfl ?_
  refine l_aload_n ok dL_law_1056 0 rfl ?_
  refine l_iload ok dL_law_1057 4 rfl ?_
  refine l_iconst ok dL_law_1059 ?_
  refine l_iadd ok dL_law_1060 ?_
  refine l_sld ok ol.2.2.2.1 ol.2.2.2.2.1 ol.2.2.2.2.2.1 ol.2.2.2.2.2.2.1 (by omega) (by omega) (by omega) dL_law_1061 ?_
  refine l_aload_n ok dL_law_1062 3 rfl ?_
  refine l_help (st := []) ok ol.2.2.1 hs_L_190 (c_L_explore X.2.1 ol.2.1 Y ok.2.2.2.2.2.2.2.2 h) ⟨rfl, rfl, Nat.le_of_ble_eq_true rfl, Nat.le_of_ble_eq_true rfl⟩ hb rfl rfl (Nat.le_of_ble_eq_true rfl) dL_law_1063 (fun σ1 k1 h => ?_)
  refine l_istore (lv' := [(5, .inl k1), (0, .inr (.inr 1000)), (1, .inr (.inr 0)), (2, .inr (.inr 72)), (3, .inr (.inr 117)), (4, .inl i)]) ok dL_law_1066 (by decide) rfl ?_
  refine l_aload_n ok dL_law_1068 3 rfl ?_
  refine l_aload_n ok dL_law_1069 1 rfl ?_
  refine l_iload ok dL_law_1070 5 rfl ?_
  refine l_iconst ok dL_law_1072 ?_
  refine l_iadd ok dL_law_1073 ?_
  refine l_sld ok ol.2.2.2.1 ol.2.2.2.2.1 ol.2.2.2.2.2.1 ol.2.2.2.2.2.2.1 (by omega) (by omega) (by omega) dL_law_1074 ?_
  refine l_callVI (st := []) ok ⟨by show _ ≤ 1165; omega, by show _ ≤ 30866; omega⟩ cs_L_192 kW_72 rfl (fr_I sub_M (inj_ok ok) (A_ok ok sub_M) (c_X10_explore X.2.1 (Ysub Y 72 KM.length) (Ysub_D sub_M (inj_ok ok)) h)) ⟨rfl, rfl, Nat.le_of_ble_eq_true rfl, Nat.le_of_ble_eq_true rfl⟩ rfl rfl (Nat.le_of_ble_eq_true rfl) dL_law_1075 (fun σ2 r1 h => ?_)
  obtain ⟨u1, h, hu1⟩ := h
  have h := h σ2 hu1
  refine l_istore (lv' := [(6, .inl r1), (5, .inl k1), (0, .inr (.inr 1000)), (1, .inr (.inr 0)), (2, .inr (.inr 72)), (3, .inr (.inr 117)), (4, .inl i)]) ok dL_law_1078 (by decide) rfl ?_
  refine l_aload_n ok dL_law_1080 4 rfl ?_
  refine l_callVI (st := []) ok ⟨by show _ ≤ 1165; omega, by show _ ≤ 30866; omega⟩ cs_L_115 kW_72 rfl (fr_I sub_M (inj_ok ok) (A_ok ok sub_M) (c_X10_thrown X.2.1 (Ysub Y 72 KM.length) (Ysub_D sub_M (inj_ok ok)) h)) ⟨rfl, rfl, Nat.le_of_ble_eq_true rfl, Nat.le_of_ble_eq_true rfl⟩ rfl rfl (Nat.le_of_ble_eq_true rfl) dL_law_1081 (fun σ3 r2 h => ?_)
  obtain ⟨u2, h, hu2⟩ := h
  have h := h σ3 hu2
  refine l_iload ok dL_law_1084 1 rfl ?_
  obtain ⟨g1, g2, hA3a, hA3b⟩ := h
  refine l_icmp_eq (tgt := 1091) ok dL_law_1086 (by decide) g1 g2 (fun c3 => ?_) (fun c3 => ?_)
  · have h := hA3a c3
    refine l_iload ok dL_law_1091 1 rfl ?_
    obtain ⟨g3, hA2a, hA2b⟩ := h
    refine l_if_ne (tgt := 1108) ok dL_law_1093 (by decide) g3 (fun c2 => ?_) (fun c2 => ?_)
    · have h := hA2a c2
      refine l_goto (tgt := 1908) ok dL_law_1108 (by decide) ?_
      refine l_sub [2, 3, 4, 5, 6] rfl ?_
      exact hk σ3 h
    · have h := hA2b c2
      refine l_aload_n ok dL_law_1096 5 rfl ?_
      refine l_iconst ok dL_law_1097 ?_
      refine l_lald ok kW_ok kW_117 (by decide) (by decide) dL_law_1098 ?_
      refine l_iload ok dL_law_1099 0 rfl ?_
      refine l_i2l ok dL_law_1101 ?_
      refine l_lcmp ok dL_law_1102 ?_
      obtain ⟨g4, hA1a, hA1b⟩ := h
      refine l_if_eq (tgt := 1108) ok dL_law_1103 (by decide) g4 (fun c1 => ?_) (fun c1 => ?_)
      · have h := hA1a c1
        refine l_goto (tgt := 1908) ok dL_law_1108 (by decide) ?_
        refine l_sub [2, 3, 4, 5, 6] rfl ?_
        exact hk σ3 h
      · have h := hA1b c1
        exact h.elim
  · have h := hA3b c3
    exact h.elim
def f_W_23 (xs : Nat → Int32) (i : Int) (σ : St) (k : St → Prop) : Prop :=
  f_L_isComplete σ (fun σ1 k1 => f_X10_isComplete (ssub σ1 72) (fun u1 r1 => ∀ σ2 : St, σ2 = mM σ1 u1 → f_X10_thrown (ssub σ2 72) (fun u2 r2 => ∀ σ3 : St, σ3 = mM σ2 u2 → inR r2 ∧ inR k1 ∧ ((r2 = k1 → inR k1 ∧ ((¬ k1 = 0 → k σ3) ∧ (k1 = 0 → inR r1 ∧ ((r1 = 0 → inR (lcmp64 (σ3 117 0) 0) ∧ (((lcmp64 (σ3 117 0) 0) = 0 → k σ3) ∧ (¬ (lcmp64 (σ3 117 0) 0) = 0 → False))) ∧ (¬ r1 = 0 → inR (lcmp64 (σ3 117 0) 1) ∧ (((lcmp64 (σ3 117 0) 1) = 0 → k σ3) ∧ (¬ (lcmp64 (σ3 117 0) 1) = 0 → False))))))) ∧ (¬ r2 = k1 → False)))))
set_option maxRecDepth 100000 in
set_option maxHeartbeats 4000000 in
theorem w_W_23 {X : Cx} {Y : Cy} {Q : State → Prop} {kc ks b0 L : Nat} {xs : Nat → Int32} {i : Int} {σ : St} {k : St → Prop} (ol : OL X Y b0 L xs) (hi : 0 ≤ i) (hi2 : i + 2 < L) (hb : kc + 1 ≤ 1165 ∧ ks + 6 ≤ 30866) (hk : ∀ σ', k σ' → Lq X Y KW 7 Q (kc + 1) (ks + 6) σ' 1908 [(0, .inr (.inr 1000)), (1, .inr (.inr 0)), (2, .inr (.inr 72)), (3, .inr (.inr 117)), (4, .inl i)] []) (h : f_W_23 xs i σ k) : Lq X Y KW 7 Q kc ks σ 1111 [(0, .inr (.inr 1000)), (1, .inr (.inr 0)), (2, .inr (.inr 72)), (3, .inr (.inr 117)), (4, .inl i)] [] := by
  have ok : Ok X Y KW cL_law 7 RL room_1 ret := ol.1
  have hL := ol.2.2.2.2.2.2.2
  unfold f_W_23 at h
  refine l_aload_n ok dL_law_1111 1 rfl ?_
  refine l_aload_n ok dL_law_1112 3 rfl ?_
  refine l_help (st := []) ok ol.2.2.1 hs_L_193 (c_L_isComplete X.2.1 ol.2.1 Y ok.2.2.2.2.2.2.2.2 h) ⟨rfl, rfl, Nat.le_of_ble_eq_true rfl, Nat.le_of_ble_eq_true rfl⟩ hb rfl rfl (Nat.le_of_ble_eq_true rfl) dL_law_1113 (fun σ1 k1 h => ?_)
  refine l_istore (lv' := [(5, .inl k1), (0, .inr (.inr 1000)), (1, .inr (.inr 0)), (2, .inr (.inr 72)), (3, .inr (.inr 117)), (4, .inl i)]) ok dL_law_1116 (by decide) rfl ?_
  refine l_aload_n ok dL_law_1118 3 rfl ?_
  refine l_callVI (st := []) ok ⟨by show _ ≤ 1165; omega, by show _ ≤ 30866; omega⟩ cs_L_195 kW_72 rfl (fr_I sub_M (inj_ok ok) (A_ok ok sub_M) (c_X10_isComplete X.2.1 (Ysub Y 72 KM.length) (Ysub_D sub_M (inj_ok ok)) h)) ⟨rfl, rfl, Nat.le_of_ble_eq_true rfl, Nat.le_of_ble_eq_true rfl⟩ rfl rfl (Nat.le_of_ble_eq_true rfl) dL_law_1119 (fun σ2 r1 h => ?_)
  obtain ⟨u1, h, hu1⟩ := h
  have h := h σ2 hu1
  refine l_istore (lv' := [(6, .inl r1), (5, .inl k1), (0, .inr (.inr 1000)), (1, .inr (.inr 0)), (2, .inr (.inr 72)), (3, .inr (.inr 117)), (4, .inl i)]) ok dL_law_1122 (by decide) rfl ?_
  refine l_aload_n ok dL_law_1124 4 rfl ?_
  refine l_callVI (st := []) ok ⟨by show _ ≤ 1165; omega, by show _ ≤ 30866; omega⟩ cs_L_115 kW_72 rfl (fr_I sub_M (inj_ok ok) (A_ok ok sub_M) (c_X10_thrown X.2.1 (Ysub Y 72 KM.length) (Ysub_D sub_M (inj_ok ok)) h)) ⟨rfl, rfl, Nat.le_of_ble_eq_true rfl, Nat.le_of_ble_eq_true rfl⟩ rfl rfl (Nat.le_of_ble_eq_true rfl) dL_law_1125 (fun σ3 r2 h => ?_)
  obtain ⟨u2, h, hu2⟩ := h
  have h := h σ3 hu2
  refine l_iload ok dL_law_1128 1 rfl ?_
  obtain ⟨g1, g2, hA5a, hA5b⟩ := h
  refine l_icmp_eq (tgt := 1135) ok dL_law_1130 (by decide) g1 g2 (fun c5 => ?_) (fun c5 => ?_)
  · have h := hA5a c5
    refine l_iload ok dL_law_1135 1 rfl ?_
    obtain ⟨g3, hA4a, hA4b⟩ := h
    refine l_if_ne (tgt := 1159) ok dL_law_1137 (by decide) g3 (fun c4 => ?_) (fun c4 => ?_)
    · have h := hA4a c4
      refine l_goto (tgt := 1908) ok dL_law_1159 (by decide) ?_
      refine l_sub [2, 3, 4, 5, 6] rfl ?_
      exact hk σ3 h
    · have h := hA4b c4
      refine l_aload_n ok dL_law_1140 5 rfl ?_
      refine l_iconst ok dL_law_1141 ?_
      refine l_lald ok kW_ok kW_117 (by decide) (by decide) dL_law_1142 ?_
      refine l_iload ok dL_law_1143 0 rfl ?_
      obtain ⟨g4, hA3a, hA3b⟩ := h
      refine l_if_eq (tgt := 1152) ok dL_law_1145 (by decide) g4 (fun c3 => ?_) (fun c3 => ?_)
      · have h := hA3a c3
        refine l_lconst ok dL_law_1152 0 rfl ?_
        refine l_lcmp ok dL_law_1153 ?_
        obtain ⟨g5, hA1a, hA1b⟩ := h
        refine l_if_eq (tgt := 1159) ok dL_law_1154 (by decide) g5 (fun c1 => ?_) (fun c1 => ?_)
        · have h := hA1a c1
          refine l_goto (tgt := 1908) ok dL_law_1159 (by decide) ?_
          refine l_sub [2, 3, 4, 5, 6] rfl ?_
          exact hk σ3 h
        · have h := hA1b c1
          exact h.elim
      · have h := hA3b c3
        refine l_lconst ok dL_law_1148 1 rfl ?_
        refine l_goto (tgt := 1153) ok dL_law_1149 (by decide) ?_
        refine l_lcmp ok dL_law_1153 ?_
        obtain ⟨g6, hA2a, hA2b⟩ := h
        refine l_if_eq (tgt := 1159) ok dL_law_1154 (by decide) g6 (fun c2 => ?_) (fun c2 => ?_)
        · have h := hA2a c2
          refine l_goto (tgt := 1908) ok dL_law_1159 (by decide) ?_
          refine l_sub [2, 3, 4, 5, 6] rfl ?_
          exact hk σ3 h
        · have h := hA2b c2
          exact h.elim
  · have h := hA5b c5
    exact h.elim
def f_W_24 (xs : Nat → Int32) (i : Int) (σ : St) (k : St → Prop) : Prop :=
  f_L_wayLength (xs (i + 1).toNat).toInt σ (fun σ1 k1 => f_X10_wayLength (xs (i + 1).toNat).toInt (ssub σ1 72) (fun u1 r1 => ∀ σ2 : St, σ2 = mM σ1 u1 → f_X10_thrown (ssub σ2 72) (fun u2 r2 => ∀ σ3 : St, σ3 = mM σ2 u2 → inR r2 ∧ inR k1 ∧ ((r2 = k1 → inR k1 ∧ ((¬ k1 = 0 → k σ3) ∧ (k1 = 0 → inR (lcmp64 (σ3 117 0) (i2l64 r1)) ∧ (((lcmp64 (σ3 117 0) (i2l64 r1)) = 0 → k σ3) ∧ (¬ (lcmp64 (σ3 117 0) (i2l64 r1)) = 0 → False))))) ∧ (¬ r2 = k1 → False)))))
set_option maxRecDepth 100000 in
set_option maxHeartbeats 4000000 in
theorem w_W_24 {X : Cx} {Y : Cy} {Q : State → Prop} {kc ks b0 L : Nat} {xs : Nat → Int32} {i : Int} {σ : St} {k : St → Prop} (ol : OL X Y b0 L xs) (hi : 0 ≤ i) (hi2 : i + 2 < L) (hb : kc + 1 ≤ 1165 ∧ ks + 6 ≤ 30866) (hk : ∀ σ', k σ' → Lq X Y KW 7 Q (kc + 1) (ks + 6) σ' 1908 [(0, .inr (.inr 1000)), (1, .inr (.inr 0)), (2, .inr (.inr 72)), (3, .inr (.inr 117)), (4, .inl i)] []) (h : f_W_24 xs i σ k) : Lq X Y KW 7 Q kc ks σ 1162 [(0, .inr (.inr 1000)), (1, .inr (.inr 0)), (2, .inr (.inr 72)), (3, .inr (.inr 117)), (4, .inl i)] [] := by
  have ok : Ok X Y KW cL_law 7 RL room_1 ret := ol.1
  have hL := ol.2.2.2.2.2.2.2
  unfold f_W_24 at h
  refine l_aload_n ok dL_law_1162 1 rfl ?_
  refine l_aload_n ok dL_law_1163 0 rfl ?_
  refine l_iload ok dL_law_1164 4 rfl ?_
  refine l_iconst ok dL_law_1166 ?_
  refine l_iadd ok dL_law_1167 ?_
  refine l_sld ok ol.2.2.2.1 ol.2.2.2.2.1 ol.2.2.2.2.2.1 ol.2.2.2.2.2.2.1 (by omega) (by omega) (by omega) dL_law_1168 ?_
  refine l_aload_n ok dL_law_1169 3 rfl ?_
  refine l_help (st := []) ok ol.2.2.1 hs_L_196 (c_L_wayLength X.2.1 ol.2.1 Y ok.2.2.2.2.2.2.2.2 h) ⟨rfl, rfl, Nat.le_of_ble_eq_true rfl, Nat.le_of_ble_eq_true rfl⟩ hb rfl rfl (Nat.le_of_ble_eq_true rfl) dL_law_1170 (fun σ1 k1 h => ?_)
  refine l_istore (lv' := [(5, .inl k1), (0, .inr (.inr 1000)), (1, .inr (.inr 0)), (2, .inr (.inr 72)), (3, .inr (.inr 117)), (4, .inl i)]) ok dL_law_1173 (by decide) rfl ?_
  refine l_aload_n ok dL_law_1175 3 rfl ?_
  refine l_aload_n ok dL_law_1176 1 rfl ?_
  refine l_iload ok dL_law_1177 5 rfl ?_
  refine l_iconst ok dL_law_1179 ?_
  refine l_iadd ok dL_law_1180 ?_
  refine l_sld ok ol.2.2.2.1 ol.2.2.2.2.1 ol.2.2.2.2.2.1 ol.2.2.2.2.2.2.1 (by omega) (by omega) (by omega) dL_law_1181 ?_
  refine l_callVI (st := []) ok ⟨by show _ ≤ 1165; omega, by show _ ≤ 30866; omega⟩ cs_L_198 kW_72 rfl (fr_I sub_M (inj_ok ok) (A_ok ok sub_M) (c_X10_wayLength X.2.1 (Ysub Y 72 KM.length) (Ysub_D sub_M (inj_ok ok)) h)) ⟨rfl, rfl, Nat.le_of_ble_eq_true rfl, Nat.le_of_ble_eq_true rfl⟩ rfl rfl (Nat.le_of_ble_eq_true rfl) dL_law_1182 (fun σ2 r1 h => ?_)
  obtain ⟨u1, h, hu1⟩ := h
  have h := h σ2 hu1
  refine l_istore (lv' := [(6, .inl r1), (5, .inl k1), (0, .inr (.inr 1000)), (1, .inr (.inr 0)), (2, .inr (.inr 72)), (3, .inr (.inr 117)), (4, .inl i)]) ok dL_law_1185 (by decide) rfl ?_
  refine l_aload_n ok dL_law_1187 4 rfl ?_
  refine l_callVI (st := []) ok ⟨by show _ ≤ 1165; omega, by show _ ≤ 30866; omega⟩ cs_L_115 kW_72 rfl (fr_I sub_M (inj_ok ok) (A_ok ok sub_M) (c_X10_thrown X.2.1 (Ysub Y 72 KM.length) (Ysub_D sub_M (inj_ok ok)) h)) ⟨rfl, rfl, Nat.le_of_ble_eq_true rfl, Nat.le_of_ble_eq_true rfl⟩ rfl rfl (Nat.le_of_ble_eq_true rfl) dL_law_1188 (fun σ3 r2 h => ?_)
  obtain ⟨u2, h, hu2⟩ := h
  have h := h σ3 hu2
  refine l_iload ok dL_law_1191 1 rfl ?_
  obtain ⟨g1, g2, hA3a, hA3b⟩ := h
  refine l_icmp_eq (tgt := 1198) ok dL_law_1193 (by decide) g1 g2 (fun c3 => ?_) (fun c3 => ?_)
  · have h := hA3a c3
    refine l_iload ok dL_law_1198 1 rfl ?_
    obtain ⟨g3, hA2a, hA2b⟩ := h
    refine l_if_ne (tgt := 1215) ok dL_law_1200 (by decide) g3 (fun c2 => ?_) (fun c2 => ?_)
    · have h := hA2a c2
      refine l_goto (tgt := 1908) ok dL_law_1215 (by decide) ?_
      refine l_sub [2, 3, 4, 5, 6] rfl ?_
      exact hk σ3 h
    · have h := hA2b c2
      refine l_aload_n ok dL_law_1203 5 rfl ?_
      refine l_iconst ok dL_law_1204 ?_
      refine l_lald ok kW_ok kW_117 (by decide) (by decide) dL_law_1205 ?_
      refine l_iload ok dL_law_1206 0 rfl ?_
      refine l_i2l ok dL_law_1208 ?_
      refine l_lcmp ok dL_law_1209 ?_
      obtain ⟨g4, hA1a, hA1b⟩ := h
      refine l_if_eq (tgt := 1215) ok dL_law_1210 (by decide) g4 (fun c1 => ?_) (fun c1 => ?_)
      · have h := hA1a c1
        refine l_goto (tgt := 1908) ok dL_law_1215 (by decide) ?_
        refine l_sub [2, 3, 4, 5, 6] rfl ?_
        exact hk σ3 h
      · have h := hA1b c1
        exact h.elim
  · have h := hA3b c3
    exact h.elim
def f_W_25 (xs : Nat → Int32) (i : Int) (σ : St) (k : St → Prop) : Prop :=
  f_L_way (xs (i + 1).toNat).toInt (xs (i + 2).toNat).toInt σ (fun σ1 k1 => f_X10_way (xs (i + 1).toNat).toInt (xs (i + 2).toNat).toInt (ssub σ1 72) (fun u1 r1 => ∀ σ2 : St, σ2 = mM σ1 u1 → f_X10_thrown (ssub σ2 72) (fun u2 r2 => ∀ σ3 : St, σ3 = mM σ2 u2 → inR r2 ∧ inR k1 ∧ ((r2 = k1 → inR k1 ∧ ((¬ k1 = 0 → k σ3) ∧ (k1 = 0 → inR (lcmp64 (σ3 117 0) (i2l64 r1)) ∧ (((lcmp64 (σ3 117 0) (i2l64 r1)) = 0 → k σ3) ∧ (¬ (lcmp64 (σ3 117 0) (i2l64 r1)) = 0 → False))))) ∧ (¬ r2 = k1 → False)))))
set_option maxRecDepth 100000 in
set_option maxHeartbeats 4000000 in
theorem w_W_25 {X : Cx} {Y : Cy} {Q : State → Prop} {kc ks b0 L : Nat} {xs : Nat → Int32} {i : Int} {σ : St} {k : St → Prop} (ol : OL X Y b0 L xs) (hi : 0 ≤ i) (hi2 : i + 2 < L) (hb : kc + 1 ≤ 1165 ∧ ks + 6 ≤ 30866) (hk : ∀ σ', k σ' → Lq X Y KW 7 Q (kc + 1) (ks + 6) σ' 1908 [(0, .inr (.inr 1000)), (1, .inr (.inr 0)), (2, .inr (.inr 72)), (3, .inr (.inr 117)), (4, .inl i)] []) (h : f_W_25 xs i σ k) : Lq X Y KW 7 Q kc ks σ 1218 [(0, .inr (.inr 1000)), (1, .inr (.inr 0)), (2, .inr (.inr 72)), (3, .inr (.inr 117)), (4, .inl i)] [] := by
  have ok : Ok X Y KW cL_law 7 RL room_1 ret := ol.1
  have hL := ol.2.2.2.2.2.2.2
  unfold f_W_25 at h
  refine l_aload_n ok dL_law_1218 1 rfl ?_
  refine l_aload_n ok dL_law_1219 0 rfl ?_
  refine l_iload ok dL_law_1220 4 rfl ?_
  refine l_iconst ok dL_law_1222 ?_
  refine l_iadd ok dL_law_1223 ?_
  refine l_sld ok ol.2.2.2.1 ol.2.2.2.2.1 ol.2.2.2.2.2.1 ol.2.2.2.2.2.2.1 (by omega) (by omega) (by omega) dL_law_1224 ?_
  refine l_aload_n ok dL_law_1225 0 rfl ?_
  refine l_iload ok dL_law_1226 4 rfl ?_
  refine l_iconst ok dL_law_1228 ?_
  refine l_iadd ok dL_law_1229 ?_
  refine l_sld ok ol.2.2.2.1 ol.2.2.2.2.1 ol.2.2.2.2.2.1 ol.2.2.2.2.2.2.1 (by omega) (by omega) (by omega) dL_law_1230 ?_
  refine l_aload_n ok dL_law_1231 3 rfl ?_
  refine l_help (st := []) ok ol.2.2.1 hs_L_199 (c_L_way X.2.1 ol.2.1 Y ok.2.2.2.2.2.2.2.2 h) ⟨rfl, rfl, Nat.le_of_ble_eq_true rfl, Nat.le_of_ble_eq_true rfl⟩ hb rfl rfl (Nat.le_of_ble_eq_true rfl) dL_law_1232 (fun σ1 k1 h => ?_)
  refine l_istore (lv' := [(5, .inl k1), (0, .inr (.inr 1000)), (1, .inr (.inr 0)), (2, .inr (.inr 72)), (3, .inr (.inr 117)), (4, .inl i)]) ok dL_law_1235 (by decide) rfl ?_
  refine l_aload_n ok dL_law_1237 3 rfl ?_
  refine l_aload_n ok dL_law_1238 1 rfl ?_
  refine l_iload ok dL_law_1239 5 rfl ?_
  refine l_iconst ok dL_law_1241 ?_
  refine l_iadd ok dL_law_1242 ?_
  refine l_sld ok ol.2.2.2.1 ol.2.2.2.2.1 ol.2.2.2.2.2.1 ol.2.2.2.2.2.2.1 (by omega) (by omega) (by omega) dL_law_1243 ?_
  refine l_aload_n ok dL_law_1244 1 rfl ?_
  refine l_iload ok dL_law_1245 5 rfl ?_
  refine l_iconst ok dL_law_1247 ?_
  refine l_iadd ok dL_law_1248 ?_
  refine l_sld ok ol.2.2.2.1 ol.2.2.2.2.1 ol.2.2.2.2.2.1 ol.2.2.2.2.2.2.1 (by omega) (by omega) (by omega) dL_law_1249 ?_
  refine l_callVI (st := []) ok ⟨by show _ ≤ 1165; omega, by show _ ≤ 30866; omega⟩ cs_L_202 kW_72 rfl (fr_I sub_M (inj_ok ok) (A_ok ok sub_M) (c_X10_way X.2.1 (Ysub Y 72 KM.length) (Ysub_D sub_M (inj_ok ok)) h)) ⟨rfl, rfl, Nat.le_of_ble_eq_true rfl, Nat.le_of_ble_eq_true rfl⟩ rfl rfl (Nat.le_of_ble_eq_true rfl) dL_law_1250 (fun σ2 r1 h => ?_)
  obtain ⟨u1, h, hu1⟩ := h
  have h := h σ2 hu1
  refine l_istore (lv' := [(6, .inl r1), (5, .inl k1), (0, .inr (.inr 1000)), (1, .inr (.inr 0)), (2, .inr (.inr 72)), (3, .inr (.inr 117)), (4, .inl i)]) ok dL_law_1253 (by decide) rfl ?_
  refine l_aload_n ok dL_law_1255 4 rfl ?_
  refine l_callVI (st := []) ok ⟨by show _ ≤ 1165; omega, by show _ ≤ 30866; omega⟩ cs_L_115 kW_72 rfl (fr_I sub_M (inj_ok ok) (A_ok ok sub_M) (c_X10_thrown X.2.1 (Ysub Y 72 KM.length) (Ysub_D sub_M (inj_ok ok)) h)) ⟨rfl, rfl, Nat.le_of_ble_eq_true rfl, Nat.le_of_ble_eq_true rfl⟩ rfl rfl (Nat.le_of_ble_eq_true rfl) dL_law_1256 (fun σ3 r2 h => ?_)
  obtain ⟨u2, h, hu2⟩ := h
  have h := h σ3 hu2
  refine l_iload ok dL_law_1259 1 rfl ?_
  obtain ⟨g1, g2, hA3a, hA3b⟩ := h
  refine l_icmp_eq (tgt := 1266) ok dL_law_1261 (by decide) g1 g2 (fun c3 => ?_) (fun c3 => ?_)
  · have h := hA3a c3
    refine l_iload ok dL_law_1266 1 rfl ?_
    obtain ⟨g3, hA2a, hA2b⟩ := h
    refine l_if_ne (tgt := 1283) ok dL_law_1268 (by decide) g3 (fun c2 => ?_) (fun c2 => ?_)
    · have h := hA2a c2
      refine l_goto (tgt := 1908) ok dL_law_1283 (by decide) ?_
      refine l_sub [2, 3, 4, 5, 6] rfl ?_
      exact hk σ3 h
    · have h := hA2b c2
      refine l_aload_n ok dL_law_1271 5 rfl ?_
      refine l_iconst ok dL_law_1272 ?_
      refine l_lald ok kW_ok kW_117 (by decide) (by decide) dL_law_1273 ?_
      refine l_iload ok dL_law_1274 0 rfl ?_
      refine l_i2l ok dL_law_1276 ?_
      refine l_lcmp ok dL_law_1277 ?_
      obtain ⟨g4, hA1a, hA1b⟩ := h
      refine l_if_eq (tgt := 1283) ok dL_law_1278 (by decide) g4 (fun c1 => ?_) (fun c1 => ?_)
      · have h := hA1a c1
        refine l_goto (tgt := 1908) ok dL_law_1283 (by decide) ?_
        refine l_sub [2, 3, 4, 5, 6] rfl ?_
        exact hk σ3 h
      · have h := hA1b c1
        exact h.elim
  · have h := hA3b c3
    exact h.elim
def f_W_26 (xs : Nat → Int32) (i : Int) (σ : St) (k : St → Prop) : Prop :=
  f_L_outcomes (xs (i + 1).toNat).toInt σ (fun σ1 k1 => f_X10_outcomes (xs (i + 1).toNat).toInt (ssub σ1 72) (fun u1 r1 => ∀ σ2 : St, σ2 = mM σ1 u1 → f_X10_thrown (ssub σ2 72) (fun u2 r2 => ∀ σ3 : St, σ3 = mM σ2 u2 → inR r2 ∧ inR k1 ∧ ((r2 = k1 → inR k1 ∧ ((¬ k1 = 0 → k σ3) ∧ (k1 = 0 → inR (lcmp64 (σ3 117 0) (i2l64 r1)) ∧ (((lcmp64 (σ3 117 0) (i2l64 r1)) = 0 → k σ3) ∧ (¬ (lcmp64 (σ3 117 0) (i2l64 r1)) = 0 → False))))) ∧ (¬ r2 = k1 → False)))))
set_option maxRecDepth 100000 in
set_option maxHeartbeats 4000000 in
theorem w_W_26 {X : Cx} {Y : Cy} {Q : State → Prop} {kc ks b0 L : Nat} {xs : Nat → Int32} {i : Int} {σ : St} {k : St → Prop} (ol : OL X Y b0 L xs) (hi : 0 ≤ i) (hi2 : i + 2 < L) (hb : kc + 1 ≤ 1165 ∧ ks + 6 ≤ 30866) (hk : ∀ σ', k σ' → Lq X Y KW 7 Q (kc + 1) (ks + 6) σ' 1908 [(0, .inr (.inr 1000)), (1, .inr (.inr 0)), (2, .inr (.inr 72)), (3, .inr (.inr 117)), (4, .inl i)] []) (h : f_W_26 xs i σ k) : Lq X Y KW 7 Q kc ks σ 1286 [(0, .inr (.inr 1000)), (1, .inr (.inr 0)), (2, .inr (.inr 72)), (3, .inr (.inr 117)), (4, .inl i)] [] := by
  have ok : Ok X Y KW cL_law 7 RL room_1 ret := ol.1
  have hL := ol.2.2.2.2.2.2.2
  unfold f_W_26 at h
  refine l_aload_n ok dL_law_1286 1 rfl ?_
  refine l_aload_n ok dL_law_1287 0 rfl ?_
  refine l_iload ok dL_law_1288 4 rfl ?_
  refine l_iconst ok dL_law_1290 ?_
  refine l_iadd ok dL_law_1291 ?_
  refine l_sld ok ol.2.2.2.1 ol.2.2.2.2.1 ol.2.2.2.2.2.1 ol.2.2.2.2.2.2.1 (by omega) (by omega) (by omega) dL_law_1292 ?_
  refine l_aload_n ok dL_law_1293 3 rfl ?_
  refine l_help (st := []) ok ol.2.2.1 hs_L_203 (c_L_outcomes X.2.1 ol.2.1 Y ok.2.2.2.2.2.2.2.2 h) ⟨rfl, rfl, Nat.le_of_ble_eq_true rfl, Nat.le_of_ble_eq_true rfl⟩ hb rfl rfl (Nat.le_of_ble_eq_true rfl) dL_law_1294 (fun σ1 k1 h => ?_)
  refine l_istore (lv' := [(5, .inl k1), (0, .inr (.inr 1000)), (1, .inr (.inr 0)), (2, .inr (.inr 72)), (3, .inr (.inr 117)), (4, .inl i)]) ok dL_law_1297 (by decide) rfl ?_
  refine l_aload_n ok dL_law_1299 3 rfl ?_
  refine l_aload_n ok dL_law_1300 1 rfl ?_
  refine l_iload ok dL_law_1301 5 rfl ?_
  refine l_iconst ok dL_law_1303 ?_
  refine l_iadd ok dL_law_1304 ?_
  refine l_sld ok ol.2.2.2.1 ol.2.2.2.2.1 ol.2.2.2.2.2.1 ol.2.2.2.2.2.2.1 (by omega) (by omega) (by omega) dL_law_1305 ?_
  refine l_callVI (st := []) ok ⟨by show _ ≤ 1165; omega, by show _ ≤ 30866; omega⟩ cs_L_205 kW_72 rfl (fr_I sub_M (inj_ok ok) (A_ok ok sub_M) (c_X10_outcomes X.2.1 (Ysub Y 72 KM.length) (Ysub_D sub_M (inj_ok ok)) h)) ⟨rfl, rfl, Nat.le_of_ble_eq_true rfl, Nat.le_of_ble_eq_true rfl⟩ rfl rfl (Nat.le_of_ble_eq_true rfl) dL_law_1306 (fun σ2 r1 h => ?_)
  obtain ⟨u1, h, hu1⟩ := h
  have h := h σ2 hu1
  refine l_istore (lv' := [(6, .inl r1), (5, .inl k1), (0, .inr (.inr 1000)), (1, .inr (.inr 0)), (2, .inr (.inr 72)), (3, .inr (.inr 117)), (4, .inl i)]) ok dL_law_1309 (by decide) rfl ?_
  refine l_aload_n ok dL_law_1311 4 rfl ?_
  refine l_callVI (st := []) ok ⟨by show _ ≤ 1165; omega, by show _ ≤ 30866; omega⟩ cs_L_115 kW_72 rfl (fr_I sub_M (inj_ok ok) (A_ok ok sub_M) (c_X10_thrown X.2.1 (Ysub Y 72 KM.length) (Ysub_D sub_M (inj_ok ok)) h)) ⟨rfl, rfl, Nat.le_of_ble_eq_true rfl, Nat.le_of_ble_eq_true rfl⟩ rfl rfl (Nat.le_of_ble_eq_true rfl) dL_law_1312 (fun σ3 r2 h => ?_)
  obtain ⟨u2, h, hu2⟩ := h
  have h := h σ3 hu2
  refine l_iload ok dL_law_1315 1 rfl ?_
  obtain ⟨g1, g2, hA3a, hA3b⟩ := h
  refine l_icmp_eq (tgt := 1322) ok dL_law_1317 (by decide) g1 g2 (fun c3 => ?_) (fun c3 => ?_)
  · have h := hA3a c3
    refine l_iload ok dL_law_1322 1 rfl ?_
    obtain ⟨g3, hA2a, hA2b⟩ := h
    refine l_if_ne (tgt := 1339) ok dL_law_1324 (by decide) g3 (fun c2 => ?_) (fun c2 => ?_)
    · have h := hA2a c2
      refine l_goto (tgt := 1908) ok dL_law_1339 (by decide) ?_
      refine l_sub [2, 3, 4, 5, 6] rfl ?_
      exact hk σ3 h
    · have h := hA2b c2
      refine l_aload_n ok dL_law_1327 5 rfl ?_
      refine l_iconst ok dL_law_1328 ?_
      refine l_lald ok kW_ok kW_117 (by decide) (by decide) dL_law_1329 ?_
      refine l_iload ok dL_law_1330 0 rfl ?_
      refine l_i2l ok dL_law_1332 ?_
      refine l_lcmp ok dL_law_1333 ?_
      obtain ⟨g4, hA1a, hA1b⟩ := h
      refine l_if_eq (tgt := 1339) ok dL_law_1334 (by decide) g4 (fun c1 => ?_) (fun c1 => ?_)
      · have h := hA1a c1
        refine l_goto (tgt := 1908) ok dL_law_1339 (by decide) ?_
        refine l_sub [2, 3, 4, 5, 6] rfl ?_
        exact hk σ3 h
      · have h := hA1b c1
        exact h.elim
  · have h := hA3b c3
    exact h.elim
def f_W_27 (xs : Nat → Int32) (i : Int) (σ : St) (k : St → Prop) : Prop :=
  f_L_occurred (xs (i + 1).toNat).toInt (xs (i + 2).toNat).toInt σ (fun σ1 k1 => f_X10_occurred (xs (i + 1).toNat).toInt (xs (i + 2).toNat).toInt (ssub σ1 72) (fun u1 r1 => ∀ σ2 : St, σ2 = mM σ1 u1 → f_X10_thrown (ssub σ2 72) (fun u2 r2 => ∀ σ3 : St, σ3 = mM σ2 u2 → inR r2 ∧ inR k1 ∧ ((r2 = k1 → inR k1 ∧ ((¬ k1 = 0 → k σ3) ∧ (k1 = 0 → inR r1 ∧ ((r1 = 0 → inR (lcmp64 (σ3 117 0) 0) ∧ (((lcmp64 (σ3 117 0) 0) = 0 → k σ3) ∧ (¬ (lcmp64 (σ3 117 0) 0) = 0 → False))) ∧ (¬ r1 = 0 → inR (lcmp64 (σ3 117 0) 1) ∧ (((lcmp64 (σ3 117 0) 1) = 0 → k σ3) ∧ (¬ (lcmp64 (σ3 117 0) 1) = 0 → False))))))) ∧ (¬ r2 = k1 → False)))))
set_option maxRecDepth 100000 in
set_option maxHeartbeats 4000000 in
theorem w_W_27 {X : Cx} {Y : Cy} {Q : State → Prop} {kc ks b0 L : Nat} {xs : Nat → Int32} {i : Int} {σ : St} {k : St → Prop} (ol : OL X Y b0 L xs) (hi : 0 ≤ i) (hi2 : i + 2 < L) (hb : kc + 1 ≤ 1165 ∧ ks + 6 ≤ 30866) (hk : ∀ σ', k σ' → Lq X Y KW 7 Q (kc + 1) (ks + 6) σ' 1908 [(0, .inr (.inr 1000)), (1, .inr (.inr 0)), (2, .inr (.inr 72)), (3, .inr (.inr 117)), (4, .inl i)] []) (h : f_W_27 xs i σ k) : Lq X Y KW 7 Q kc ks σ 1342 [(0, .inr (.inr 1000)), (1, .inr (.inr 0)), (2, .inr (.inr 72)), (3, .inr (.inr 117)), (4, .inl i)] [] := by
  have ok : Ok X Y KW cL_law 7 RL room_1 ret := ol.1
  have hL := ol.2.2.2.2.2.2.2
  unfold f_W_27 at h
  refine l_aload_n ok dL_law_1342 1 rfl ?_
  refine l_aload_n ok dL_law_1343 0 rfl ?_
  refine l_iload ok dL_law_1344 4 rfl ?_
  refine l_iconst ok dL_law_1346 ?_
  refine l_iadd ok dL_law_1347 ?_
  refine l_sld ok ol.2.2.2.1 ol.2.2.2.2.1 ol.2.2.2.2.2.1 ol.2.2.2.2.2.2.1 (by omega) (by omega) (by omega) dL_law_1348 ?_
  refine l_aload_n ok dL_law_1349 0 rfl ?_
  refine l_iload ok dL_law_1350 4 rfl ?_
  refine l_iconst ok dL_law_1352 ?_
  refine l_iadd ok dL_law_1353 ?_
  refine l_sld ok ol.2.2.2.1 ol.2.2.2.2.1 ol.2.2.2.2.2.1 ol.2.2.2.2.2.2.1 (by omega) (by omega) (by omega) dL_law_1354 ?_
  refine l_aload_n ok dL_law_1355 3 rfl ?_
  refine l_help (st := []) ok ol.2.2.1 hs_L_206 (c_L_occurred X.2.1 ol.2.1 Y ok.2.2.2.2.2.2.2.2 h) ⟨rfl, rfl, Nat.le_of_ble_eq_true rfl, Nat.le_of_ble_eq_true rfl⟩ hb rfl rfl (Nat.le_of_ble_eq_true rfl) dL_law_1356 (fun σ1 k1 h => ?_)
  refine l_istore (lv' := [(5, .inl k1), (0, .inr (.inr 1000)), (1, .inr (.inr 0)), (2, .inr (.inr 72)), (3, .inr (.inr 117)), (4, .inl i)]) ok dL_law_1359 (by decide) rfl ?_
  refine l_aload_n ok dL_law_1361 3 rfl ?_
  refine l_aload_n ok dL_law_1362 1 rfl ?_
  refine l_iload ok dL_law_1363 5 rfl ?_
  refine l_iconst ok dL_law_1365 ?_
  refine l_iadd ok dL_law_1366 ?_
  refine l_sld ok ol.2.2.2.1 ol.2.2.2.2.1 ol.2.2.2.2.2.1 ol.2.2.2.2.2.2.1 (by omega) (by omega) (by omega) dL_law_1367 ?_
  refine l_aload_n ok dL_law_1368 1 rfl ?_
  refine l_iload ok dL_law_1369 5 rfl ?_
  refine l_iconst ok dL_law_1371 ?_
  refine l_iadd ok dL_law_1372 ?_
  refine l_sld ok ol.2.2.2.1 ol.2.2.2.2.1 ol.2.2.2.2.2.1 ol.2.2.2.2.2.2.1 (by omega) (by omega) (by omega) dL_law_1373 ?_
  refine l_callVI (st := []) ok ⟨by show _ ≤ 1165; omega, by show _ ≤ 30866; omega⟩ cs_L_208 kW_72 rfl (fr_I sub_M (inj_ok ok) (A_ok ok sub_M) (c_X10_occurred X.2.1 (Ysub Y 72 KM.length) (Ysub_D sub_M (inj_ok ok)) h)) ⟨rfl, rfl, Nat.le_of_ble_eq_true rfl, Nat.le_of_ble_eq_true rfl⟩ rfl rfl (Nat.le_of_ble_eq_true rfl) dL_law_1374 (fun σ2 r1 h => ?_)
  obtain ⟨u1, h, hu1⟩ := h
  have h := h σ2 hu1
  refine l_istore (lv' := [(6, .inl r1), (5, .inl k1), (0, .inr (.inr 1000)), (1, .inr (.inr 0)), (2, .inr (.inr 72)), (3, .inr (.inr 117)), (4, .inl i)]) ok dL_law_1377 (by decide) rfl ?_
  refine l_aload_n ok dL_law_1379 4 rfl ?_
  refine l_callVI (st := []) ok ⟨by show _ ≤ 1165; omega, by show _ ≤ 30866; omega⟩ cs_L_115 kW_72 rfl (fr_I sub_M (inj_ok ok) (A_ok ok sub_M) (c_X10_thrown X.2.1 (Ysub Y 72 KM.length) (Ysub_D sub_M (inj_ok ok)) h)) ⟨rfl, rfl, Nat.le_of_ble_eq_true rfl, Nat.le_of_ble_eq_true rfl⟩ rfl rfl (Nat.le_of_ble_eq_true rfl) dL_law_1380 (fun σ3 r2 h => ?_)
  obtain ⟨u2, h, hu2⟩ := h
  have h := h σ3 hu2
  refine l_iload ok dL_law_1383 1 rfl ?_
  obtain ⟨g1, g2, hA5a, hA5b⟩ := h
  refine l_icmp_eq (tgt := 1390) ok dL_law_1385 (by decide) g1 g2 (fun c5 => ?_) (fun c5 => ?_)
  · have h := hA5a c5
    refine l_iload ok dL_law_1390 1 rfl ?_
    obtain ⟨g3, hA4a, hA4b⟩ := h
    refine l_if_ne (tgt := 1414) ok dL_law_1392 (by decide) g3 (fun c4 => ?_) (fun c4 => ?_)
    · have h := hA4a c4
      refine l_goto (tgt := 1908) ok dL_law_1414 (by decide) ?_
      refine l_sub [2, 3, 4, 5, 6] rfl ?_
      exact hk σ3 h
    · have h := hA4b c4
      refine l_aload_n ok dL_law_1395 5 rfl ?_
      refine l_iconst ok dL_law_1396 ?_
      refine l_lald ok kW_ok kW_117 (by decide) (by decide) dL_law_1397 ?_
      refine l_iload ok dL_law_1398 0 rfl ?_
      obtain ⟨g4, hA3a, hA3b⟩ := h
      refine l_if_eq (tgt := 1407) ok dL_law_1400 (by decide) g4 (fun c3 => ?_) (fun c3 => ?_)
      · have h := hA3a c3
        refine l_lconst ok dL_law_1407 0 rfl ?_
        refine l_lcmp ok dL_law_1408 ?_
        obtain ⟨g5, hA1a, hA1b⟩ := h
        refine l_if_eq (tgt := 1414) ok dL_law_1409 (by decide) g5 (fun c1 => ?_) (fun c1 => ?_)
        · have h := hA1a c1
          refine l_goto (tgt := 1908) ok dL_law_1414 (by decide) ?_
          refine l_sub [2, 3, 4, 5, 6] rfl ?_
          exact hk σ3 h
        · have h := hA1b c1
          exact h.elim
      · have h := hA3b c3
        refine l_lconst ok dL_law_1403 1 rfl ?_
        refine l_goto (tgt := 1408) ok dL_law_1404 (by decide) ?_
        refine l_lcmp ok dL_law_1408 ?_
        obtain ⟨g6, hA2a, hA2b⟩ := h
        refine l_if_eq (tgt := 1414) ok dL_law_1409 (by decide) g6 (fun c2 => ?_) (fun c2 => ?_)
        · have h := hA2a c2
          refine l_goto (tgt := 1908) ok dL_law_1414 (by decide) ?_
          refine l_sub [2, 3, 4, 5, 6] rfl ?_
          exact hk σ3 h
        · have h := hA2b c2
          exact h.elim
  · have h := hA5b c5
    exact h.elim
def f_W_28 (xs : Nat → Int32) (i : Int) (σ : St) (k : St → Prop) : Prop :=
  f_L_analyze σ (fun σ1 k1 => f_X10_analyze (ssub σ1 72) (fun u1 r1 => ∀ σ2 : St, σ2 = mM σ1 u1 → f_X10_thrown (ssub σ2 72) (fun u2 r2 => ∀ σ3 : St, σ3 = mM σ2 u2 → inR r2 ∧ inR k1 ∧ ((r2 = k1 → inR k1 ∧ ((¬ k1 = 0 → k σ3) ∧ (k1 = 0 → inR (lcmp64 (σ3 117 0) (i2l64 r1)) ∧ (((lcmp64 (σ3 117 0) (i2l64 r1)) = 0 → k σ3) ∧ (¬ (lcmp64 (σ3 117 0) (i2l64 r1)) = 0 → False))))) ∧ (¬ r2 = k1 → False)))))
set_option maxRecDepth 100000 in
set_option maxHeartbeats 4000000 in
theorem w_W_28 {X : Cx} {Y : Cy} {Q : State → Prop} {kc ks b0 L : Nat} {xs : Nat → Int32} {i : Int} {σ : St} {k : St → Prop} (ol : OL X Y b0 L xs) (hi : 0 ≤ i) (hi2 : i + 2 < L) (hb : kc + 1 ≤ 1165 ∧ ks + 6 ≤ 30866) (hk : ∀ σ', k σ' → Lq X Y KW 7 Q (kc + 1) (ks + 6) σ' 1908 [(0, .inr (.inr 1000)), (1, .inr (.inr 0)), (2, .inr (.inr 72)), (3, .inr (.inr 117)), (4, .inl i)] []) (h : f_W_28 xs i σ k) : Lq X Y KW 7 Q kc ks σ 1417 [(0, .inr (.inr 1000)), (1, .inr (.inr 0)), (2, .inr (.inr 72)), (3, .inr (.inr 117)), (4, .inl i)] [] := by
  have ok : Ok X Y KW cL_law 7 RL room_1 ret := ol.1
  have hL := ol.2.2.2.2.2.2.2
  unfold f_W_28 at h
  refine l_aload_n ok dL_law_1417 1 rfl ?_
  refine l_aload_n ok dL_law_1418 3 rfl ?_
  refine l_help (st := []) ok ol.2.2.1 hs_L_209 (c_L_analyze X.2.1 ol.2.1 Y ok.2.2.2.2.2.2.2.2 h) ⟨rfl, rfl, Nat.le_of_ble_eq_true rfl, Nat.le_of_ble_eq_true rfl⟩ hb rfl rfl (Nat.le_of_ble_eq_true rfl) dL_law_1419 (fun σ1 k1 h => ?_)
  refine l_istore (lv' := [(5, .inl k1), (0, .inr (.inr 1000)), (1, .inr (.inr 0)), (2, .inr (.inr 72)), (3, .inr (.inr 117)), (4, .inl i)]) ok dL_law_1422 (by decide) rfl ?_
  refine l_aload_n ok dL_law_1424 3 rfl ?_
  refine l_callVI (st := []) ok ⟨by show _ ≤ 1165; omega, by show _ ≤ 30866; omega⟩ cs_L_211 kW_72 rfl (fr_I sub_M (inj_ok ok) (A_ok ok sub_M) (c_X10_analyze X.2.1 (Ysub Y 72 KM.length) (Ysub_D sub_M (inj_ok ok)) h)) ⟨rfl, rfl, Nat.le_of_ble_eq_true rfl, Nat.le_of_ble_eq_true rfl⟩ rfl rfl (Nat.le_of_ble_eq_true rfl) dL_law_1425 (fun σ2 r1 h => ?_)
  obtain ⟨u1, h, hu1⟩ := h
  have h := h σ2 hu1
  refine l_istore (lv' := [(6, .inl r1), (5, .inl k1), (0, .inr (.inr 1000)), (1, .inr (.inr 0)), (2, .inr (.inr 72)), (3, .inr (.inr 117)), (4, .inl i)]) ok dL_law_1428 (by decide) rfl ?_
  refine l_aload_n ok dL_law_1430 4 rfl ?_
  refine l_callVI (st := []) ok ⟨by show _ ≤ 1165; omega, by show _ ≤ 30866; omega⟩ cs_L_115 kW_72 rfl (fr_I sub_M (inj_ok ok) (A_ok ok sub_M) (c_X10_thrown X.2.1 (Ysub Y 72 KM.length) (Ysub_D sub_M (inj_ok ok)) h)) ⟨rfl, rfl, Nat.le_of_ble_eq_true rfl, Nat.le_of_ble_eq_true rfl⟩ rfl rfl (Nat.le_of_ble_eq_true rfl) dL_law_1431 (fun σ3 r2 h => ?_)
  obtain ⟨u2, h, hu2⟩ := h
  have h := h σ3 hu2
  refine l_iload ok dL_law_1434 1 rfl ?_
  obtain ⟨g1, g2, hA3a, hA3b⟩ := h
  refine l_icmp_eq (tgt := 1441) ok dL_law_1436 (by decide) g1 g2 (fun c3 => ?_) (fun c3 => ?_)
  · have h := hA3a c3
    refine l_iload ok dL_law_1441 1 rfl ?_
    obtain ⟨g3, hA2a, hA2b⟩ := h
    refine l_if_ne (tgt := 1458) ok dL_law_1443 (by decide) g3 (fun c2 => ?_) (fun c2 => ?_)
    · have h := hA2a c2
      refine l_goto (tgt := 1908) ok dL_law_1458 (by decide) ?_
      refine l_sub [2, 3, 4, 5, 6] rfl ?_
      exact hk σ3 h
    · have h := hA2b c2
      refine l_aload_n ok dL_law_1446 5 rfl ?_
      refine l_iconst ok dL_law_1447 ?_
      refine l_lald ok kW_ok kW_117 (by decide) (by decide) dL_law_1448 ?_
      refine l_iload ok dL_law_1449 0 rfl ?_
      refine l_i2l ok dL_law_1451 ?_
      refine l_lcmp ok dL_law_1452 ?_
      obtain ⟨g4, hA1a, hA1b⟩ := h
      refine l_if_eq (tgt := 1458) ok dL_law_1453 (by decide) g4 (fun c1 => ?_) (fun c1 => ?_)
      · have h := hA1a c1
        refine l_goto (tgt := 1908) ok dL_law_1458 (by decide) ?_
        refine l_sub [2, 3, 4, 5, 6] rfl ?_
        exact hk σ3 h
      · have h := hA1b c1
        exact h.elim
  · have h := hA3b c3
    exact h.elim
def f_W_29 (xs : Nat → Int32) (i : Int) (σ : St) (k : St → Prop) : Prop :=
  f_L_isReached (xs (i + 1).toNat).toInt (xs (i + 2).toNat).toInt σ (fun σ1 k1 => f_X10_isReached (xs (i + 1).toNat).toInt (xs (i + 2).toNat).toInt (ssub σ1 72) (fun u1 r1 => ∀ σ2 : St, σ2 = mM σ1 u1 → f_X10_thrown (ssub σ2 72) (fun u2 r2 => ∀ σ3 : St, σ3 = mM σ2 u2 → inR r2 ∧ inR k1 ∧ ((r2 = k1 → inR k1 ∧ ((¬ k1 = 0 → k σ3) ∧ (k1 = 0 → inR r1 ∧ ((r1 = 0 → inR (lcmp64 (σ3 117 0) 0) ∧ (((lcmp64 (σ3 117 0) 0) = 0 → k σ3) ∧ (¬ (lcmp64 (σ3 117 0) 0) = 0 → False))) ∧ (¬ r1 = 0 → inR (lcmp64 (σ3 117 0) 1) ∧ (((lcmp64 (σ3 117 0) 1) = 0 → k σ3) ∧ (¬ (lcmp64 (σ3 117 0) 1) = 0 → False))))))) ∧ (¬ r2 = k1 → False)))))
set_option maxRecDepth 100000 in
set_option maxHeartbeats 4000000 in
theorem w_W_29 {X : Cx} {Y : Cy} {Q : State → Prop} {kc ks b0 L : Nat} {xs : Nat → Int32} {i : Int} {σ : St} {k : St → Prop} (ol : OL X Y b0 L xs) (hi : 0 ≤ i) (hi2 : i + 2 < L) (hb : kc + 1 ≤ 1165 ∧ ks + 6 ≤ 30866) (hk : ∀ σ', k σ' → Lq X Y KW 7 Q (kc + 1) (ks + 6) σ' 1908 [(0, .inr (.inr 1000)), (1, .inr (.inr 0)), (2, .inr (.inr 72)), (3, .inr (.inr 117)), (4, .inl i)] []) (h : f_W_29 xs i σ k) : Lq X Y KW 7 Q kc ks σ 1461 [(0, .inr (.inr 1000)), (1, .inr (.inr 0)), (2, .inr (.inr 72)), (3, .inr (.inr 117)), (4, .inl i)] [] := by
  have ok : Ok X Y KW cL_law 7 RL room_1 ret := ol.1
  have hL := ol.2.2.2.2.2.2.2
  unfold f_W_29 at h
  refine l_aload_n ok dL_law_1461 1 rfl ?_
  refine l_aload_n ok dL_law_1462 0 rfl ?_
  refine l_iload ok dL_law_1463 4 rfl ?_
  refine l_iconst ok dL_law_1465 ?_
  refine l_iadd ok dL_law_1466 ?_
  refine l_sld ok ol.2.2.2.1 ol.2.2.2.2.1 ol.2.2.2.2.2.1 ol.2.2.2.2.2.2.1 (by omega) (by omega) (by omega) dL_law_1467 ?_
  refine l_aload_n ok dL_law_1468 0 rfl ?_
  refine l_iload ok dL_law_1469 4 rfl ?_
  refine l_iconst ok dL_law_1471 ?_
  refine l_iadd ok dL_law_1472 ?_
  refine l_sld ok ol.2.2.2.1 ol.2.2.2.2.1 ol.2.2.2.2.2.1 ol.2.2.2.2.2.2.1 (by omega) (by omega) (by omega) dL_law_1473 ?_
  refine l_aload_n ok dL_law_1474 3 rfl ?_
  refine l_help (st := []) ok ol.2.2.1 hs_L_212 (c_L_isReached X.2.1 ol.2.1 Y ok.2.2.2.2.2.2.2.2 h) ⟨rfl, rfl, Nat.le_of_ble_eq_true rfl, Nat.le_of_ble_eq_true rfl⟩ hb rfl rfl (Nat.le_of_ble_eq_true rfl) dL_law_1475 (fun σ1 k1 h => ?_)
  refine l_istore (lv' := [(5, .inl k1), (0, .inr (.inr 1000)), (1, .inr (.inr 0)), (2, .inr (.inr 72)), (3, .inr (.inr 117)), (4, .inl i)]) ok dL_law_1478 (by decide) rfl ?_
  refine l_aload_n ok dL_law_1480 3 rfl ?_
  refine l_aload_n ok dL_law_1481 1 rfl ?_
  refine l_iload ok dL_law_1482 5 rfl ?_
  refine l_iconst ok dL_law_1484 ?_
  refine l_iadd ok dL_law_1485 ?_
  refine l_sld ok ol.2.2.2.1 ol.2.2.2.2.1 ol.2.2.2.2.2.1 ol.2.2.2.2.2.2.1 (by omega) (by omega) (by omega) dL_law_1486 ?_
  refine l_aload_n ok dL_law_1487 1 rfl ?_
  refine l_iload ok dL_law_1488 5 rfl ?_
  refine l_iconst ok dL_law_1490 ?_
  refine l_iadd ok dL_law_1491 ?_
  refine l_sld ok ol.2.2.2.1 ol.2.2.2.2.1 ol.2.2.2.2.2.1 ol.2.2.2.2.2.2.1 (by omega) (by omega) (by omega) dL_law_1492 ?_
  refine l_callVI (st := []) ok ⟨by show _ ≤ 1165; omega, by show _ ≤ 30866; omega⟩ cs_L_214 kW_72 rfl (fr_I sub_M (inj_ok ok) (A_ok ok sub_M) (c_X10_isReached X.2.1 (Ysub Y 72 KM.length) (Ysub_D sub_M (inj_ok ok)) h)) ⟨rfl, rfl, Nat.le_of_ble_eq_true rfl, Nat.le_of_ble_eq_true rfl⟩ rfl rfl (Nat.le_of_ble_eq_true rfl) dL_law_1493 (fun σ2 r1 h => ?_)
  obtain ⟨u1, h, hu1⟩ := h
  have h := h σ2 hu1
  refine l_istore (lv' := [(6, .inl r1), (5, .inl k1), (0, .inr (.inr 1000)), (1, .inr (.inr 0)), (2, .inr (.inr 72)), (3, .inr (.inr 117)), (4, .inl i)]) ok dL_law_1496 (by decide) rfl ?_
  refine l_aload_n ok dL_law_1498 4 rfl ?_
  refine l_callVI (st := []) ok ⟨by show _ ≤ 1165; omega, by show _ ≤ 30866; omega⟩ cs_L_115 kW_72 rfl (fr_I sub_M (inj_ok ok) (A_ok ok sub_M) (c_X10_thrown X.2.1 (Ysub Y 72 KM.length) (Ysub_D sub_M (inj_ok ok)) h)) ⟨rfl, rfl, Nat.le_of_ble_eq_true rfl, Nat.le_of_ble_eq_true rfl⟩ rfl rfl (Nat.le_of_ble_eq_true rfl) dL_law_1499 (fun σ3 r2 h => ?_)
  obtain ⟨u2, h, hu2⟩ := h
  have h := h σ3 hu2
  refine l_iload ok dL_law_1502 1 rfl ?_
  obtain ⟨g1, g2, hA5a, hA5b⟩ := h
  refine l_icmp_eq (tgt := 1509) ok dL_law_1504 (by decide) g1 g2 (fun c5 => ?_) (fun c5 => ?_)
  · have h := hA5a c5
    refine l_iload ok dL_law_1509 1 rfl ?_
    obtain ⟨g3, hA4a, hA4b⟩ := h
    refine l_if_ne (tgt := 1533) ok dL_law_1511 (by decide) g3 (fun c4 => ?_) (fun c4 => ?_)
    · have h := hA4a c4
      refine l_goto (tgt := 1908) ok dL_law_1533 (by decide) ?_
      refine l_sub [2, 3, 4, 5, 6] rfl ?_
      exact hk σ3 h
    · have h := hA4b c4
      refine l_aload_n ok dL_law_1514 5 rfl ?_
      refine l_iconst ok dL_law_1515 ?_
      refine l_lald ok kW_ok kW_117 (by decide) (by decide) dL_law_1516 ?_
      refine l_iload ok dL_law_1517 0 rfl ?_
      obtain ⟨g4, hA3a, hA3b⟩ := h
      refine l_if_eq (tgt := 1526) ok dL_law_1519 (by decide) g4 (fun c3 => ?_) (fun c3 => ?_)
      · have h := hA3a c3
        refine l_lconst ok dL_law_1526 0 rfl ?_
        refine l_lcmp ok dL_law_1527 ?_
        obtain ⟨g5, hA1a, hA1b⟩ := h
        refine l_if_eq (tgt := 1533) ok dL_law_1528 (by decide) g5 (fun c1 => ?_) (fun c1 => ?_)
        · have h := hA1a c1
          refine l_goto (tgt := 1908) ok dL_law_1533 (by decide) ?_
          refine l_sub [2, 3, 4, 5, 6] rfl ?_
          exact hk σ3 h
        · have h := hA1b c1
          exact h.elim
      · have h := hA3b c3
        refine l_lconst ok dL_law_1522 1 rfl ?_
        refine l_goto (tgt := 1527) ok dL_law_1523 (by decide) ?_
        refine l_lcmp ok dL_law_1527 ?_
        obtain ⟨g6, hA2a, hA2b⟩ := h
        refine l_if_eq (tgt := 1533) ok dL_law_1528 (by decide) g6 (fun c2 => ?_) (fun c2 => ?_)
        · have h := hA2a c2
          refine l_goto (tgt := 1908) ok dL_law_1533 (by decide) ?_
          refine l_sub [2, 3, 4, 5, 6] rfl ?_
          exact hk σ3 h
        · have h := hA2b c2
          exact h.elim
  · have h := hA5b c5
    exact h.elim
def f_W_30 (xs : Nat → Int32) (i : Int) (σ : St) (k : St → Prop) : Prop :=
  f_L_lowest (xs (i + 1).toNat).toInt (xs (i + 2).toNat).toInt σ (fun σ1 k1 => f_X10_lowest (xs (i + 1).toNat).toInt (xs (i + 2).toNat).toInt (ssub σ1 72) (fun u1 r1 => ∀ σ2 : St, σ2 = mM σ1 u1 → f_X10_thrown (ssub σ2 72) (fun u2 r2 => ∀ σ3 : St, σ3 = mM σ2 u2 → inR r2 ∧ inR k1 ∧ ((r2 = k1 → inR k1 ∧ ((¬ k1 = 0 → k σ3) ∧ (k1 = 0 → inR (lcmp64 (σ3 117 0) (i2l64 r1)) ∧ (((lcmp64 (σ3 117 0) (i2l64 r1)) = 0 → k σ3) ∧ (¬ (lcmp64 (σ3 117 0) (i2l64 r1)) = 0 → False))))) ∧ (¬ r2 = k1 → False)))))
set_option maxRecDepth 100000 in
set_option maxHeartbeats 4000000 in
theorem w_W_30 {X : Cx} {Y : Cy} {Q : State → Prop} {kc ks b0 L : Nat} {xs : Nat → Int32} {i : Int} {σ : St} {k : St → Prop} (ol : OL X Y b0 L xs) (hi : 0 ≤ i) (hi2 : i + 2 < L) (hb : kc + 1 ≤ 1165 ∧ ks + 6 ≤ 30866) (hk : ∀ σ', k σ' → Lq X Y KW 7 Q (kc + 1) (ks + 6) σ' 1908 [(0, .inr (.inr 1000)), (1, .inr (.inr 0)), (2, .inr (.inr 72)), (3, .inr (.inr 117)), (4, .inl i)] []) (h : f_W_30 xs i σ k) : Lq X Y KW 7 Q kc ks σ 1536 [(0, .inr (.inr 1000)), (1, .inr (.inr 0)), (2, .inr (.inr 72)), (3, .inr (.inr 117)), (4, .inl i)] [] := by
  have ok : Ok X Y KW cL_law 7 RL room_1 ret := ol.1
  have hL := ol.2.2.2.2.2.2.2
  unfold f_W_30 at h
  refine l_aload_n ok dL_law_1536 1 rfl ?_
  refine l_aload_n ok dL_law_1537 0 rfl ?_
  refine l_iload ok dL_law_1538 4 rfl ?_
  refine l_iconst ok dL_law_1540 ?_
  refine l_iadd ok dL_law_1541 ?_
  refine l_sld ok ol.2.2.2.1 ol.2.2.2.2.1 ol.2.2.2.2.2.1 ol.2.2.2.2.2.2.1 (by omega) (by omega) (by omega) dL_law_1542 ?_
  refine l_aload_n ok dL_law_1543 0 rfl ?_
  refine l_iload ok dL_law_1544 4 rfl ?_
  refine l_iconst ok dL_law_1546 ?_
  refine l_iadd ok dL_law_1547 ?_
  refine l_sld ok ol.2.2.2.1 ol.2.2.2.2.1 ol.2.2.2.2.2.1 ol.2.2.2.2.2.2.1 (by omega) (by omega) (by omega) dL_law_1548 ?_
  refine l_aload_n ok dL_law_1549 3 rfl ?_
  refine l_help (st := []) ok ol.2.2.1 hs_L_215 (c_L_lowest X.2.1 ol.2.1 Y ok.2.2.2.2.2.2.2.2 h) ⟨rfl, rfl, Nat.le_of_ble_eq_true rfl, Nat.le_of_ble_eq_true rfl⟩ hb rfl rfl (Nat.le_of_ble_eq_true rfl) dL_law_1550 (fun σ1 k1 h => ?_)
  refine l_istore (lv' := [(5, .inl k1), (0, .inr (.inr 1000)), (1, .inr (.inr 0)), (2, .inr (.inr 72)), (3, .inr (.inr 117)), (4, .inl i)]) ok dL_law_1553 (by decide) rfl ?_
  refine l_aload_n ok dL_law_1555 3 rfl ?_
  refine l_aload_n ok dL_law_1556 1 rfl ?_
  refine l_iload ok dL_law_1557 5 rfl ?_
  refine l_iconst ok dL_law_1559 ?_
  refine l_iadd ok dL_law_1560 ?_
  refine l_sld ok ol.2.2.2.1 ol.2.2.2.2.1 ol.2.2.2.2.2.1 ol.2.2.2.2.2.2.1 (by omega) (by omega) (by omega) dL_law_1561 ?_
  refine l_aload_n ok dL_law_1562 1 rfl ?_
  refine l_iload ok dL_law_1563 5 rfl ?_
  refine l_iconst ok dL_law_1565 ?_
  refine l_iadd ok dL_law_1566 ?_
  refine l_sld ok ol.2.2.2.1 ol.2.2.2.2.1 ol.2.2.2.2.2.1 ol.2.2.2.2.2.2.1 (by omega) (by omega) (by omega) dL_law_1567 ?_
  refine l_callVI (st := []) ok ⟨by show _ ≤ 1165; omega, by show _ ≤ 30866; omega⟩ cs_L_217 kW_72 rfl (fr_I sub_M (inj_ok ok) (A_ok ok sub_M) (c_X10_lowest X.2.1 (Ysub Y 72 KM.length) (Ysub_D sub_M (inj_ok ok)) h)) ⟨rfl, rfl, Nat.le_of_ble_eq_true rfl, Nat.le_of_ble_eq_true rfl⟩ rfl rfl (Nat.le_of_ble_eq_true rfl) dL_law_1568 (fun σ2 r1 h => ?_)
  obtain ⟨u1, h, hu1⟩ := h
  have h := h σ2 hu1
  refine l_istore (lv' := [(6, .inl r1), (5, .inl k1), (0, .inr (.inr 1000)), (1, .inr (.inr 0)), (2, .inr (.inr 72)), (3, .inr (.inr 117)), (4, .inl i)]) ok dL_law_1571 (by decide) rfl ?_
  refine l_aload_n ok dL_law_1573 4 rfl ?_
  refine l_callVI (st := []) ok ⟨by show _ ≤ 1165; omega, by show _ ≤ 30866; omega⟩ cs_L_115 kW_72 rfl (fr_I sub_M (inj_ok ok) (A_ok ok sub_M) (c_X10_thrown X.2.1 (Ysub Y 72 KM.length) (Ysub_D sub_M (inj_ok ok)) h)) ⟨rfl, rfl, Nat.le_of_ble_eq_true rfl, Nat.le_of_ble_eq_true rfl⟩ rfl rfl (Nat.le_of_ble_eq_true rfl) dL_law_1574 (fun σ3 r2 h => ?_)
  obtain ⟨u2, h, hu2⟩ := h
  have h := h σ3 hu2
  refine l_iload ok dL_law_1577 1 rfl ?_
  obtain ⟨g1, g2, hA3a, hA3b⟩ := h
  refine l_icmp_eq (tgt := 1584) ok dL_law_1579 (by decide) g1 g2 (fun c3 => ?_) (fun c3 => ?_)
  · have h := hA3a c3
    refine l_iload ok dL_law_1584 1 rfl ?_
    obtain ⟨g3, hA2a, hA2b⟩ := h
    refine l_if_ne (tgt := 1601) ok dL_law_1586 (by decide) g3 (fun c2 => ?_) (fun c2 => ?_)
    · have h := hA2a c2
      refine l_goto (tgt := 1908) ok dL_law_1601 (by decide) ?_
      refine l_sub [2, 3, 4, 5, 6] rfl ?_
      exact hk σ3 h
    · have h := hA2b c2
      refine l_aload_n ok dL_law_1589 5 rfl ?_
      refine l_iconst ok dL_law_1590 ?_
      refine l_lald ok kW_ok kW_117 (by decide) (by decide) dL_law_1591 ?_
      refine l_iload ok dL_law_1592 0 rfl ?_
      refine l_i2l ok dL_law_1594 ?_
      refine l_lcmp ok dL_law_1595 ?_
      obtain ⟨g4, hA1a, hA1b⟩ := h
      refine l_if_eq (tgt := 1601) ok dL_law_1596 (by decide) g4 (fun c1 => ?_) (fun c1 => ?_)
      · have h := hA1a c1
        refine l_goto (tgt := 1908) ok dL_law_1601 (by decide) ?_
        refine l_sub [2, 3, 4, 5, 6] rfl ?_
        exact hk σ3 h
      · have h := hA1b c1
        exact h.elim
  · have h := hA3b c3
    exact h.elim
def f_W_31 (xs : Nat → Int32) (i : Int) (σ : St) (k : St → Prop) : Prop :=
  f_L_greatest (xs (i + 1).toNat).toInt (xs (i + 2).toNat).toInt σ (fun σ1 k1 => f_X10_greatest (xs (i + 1).toNat).toInt (xs (i + 2).toNat).toInt (ssub σ1 72) (fun u1 r1 => ∀ σ2 : St, σ2 = mM σ1 u1 → f_X10_thrown (ssub σ2 72) (fun u2 r2 => ∀ σ3 : St, σ3 = mM σ2 u2 → inR r2 ∧ inR k1 ∧ ((r2 = k1 → inR k1 ∧ ((¬ k1 = 0 → k σ3) ∧ (k1 = 0 → inR (lcmp64 (σ3 117 0) (i2l64 r1)) ∧ (((lcmp64 (σ3 117 0) (i2l64 r1)) = 0 → k σ3) ∧ (¬ (lcmp64 (σ3 117 0) (i2l64 r1)) = 0 → False))))) ∧ (¬ r2 = k1 → False)))))
set_option maxRecDepth 100000 in
set_option maxHeartbeats 4000000 in
theorem w_W_31 {X : Cx} {Y : Cy} {Q : State → Prop} {kc ks b0 L : Nat} {xs : Nat → Int32} {i : Int} {σ : St} {k : St → Prop} (ol : OL X Y b0 L xs) (hi : 0 ≤ i) (hi2 : i + 2 < L) (hb : kc + 1 ≤ 1165 ∧ ks + 6 ≤ 30866) (hk : ∀ σ', k σ' → Lq X Y KW 7 Q (kc + 1) (ks + 6) σ' 1908 [(0, .inr (.inr 1000)), (1, .inr (.inr 0)), (2, .inr (.inr 72)), (3, .inr (.inr 117)), (4, .inl i)] []) (h : f_W_31 xs i σ k) : Lq X Y KW 7 Q kc ks σ 1604 [(0, .inr (.inr 1000)), (1, .inr (.inr 0)), (2, .inr (.inr 72)), (3, .inr (.inr 117)), (4, .inl i)] [] := by
  have ok : Ok X Y KW cL_law 7 RL room_1 ret := ol.1
  have hL := ol.2.2.2.2.2.2.2
  unfold f_W_31 at h
  refine l_aload_n ok dL_law_1604 1 rfl ?_
  refine l_aload_n ok dL_law_1605 0 rfl ?_
  refine l_iload ok dL_law_1606 4 rfl ?_
  refine l_iconst ok dL_law_1608 ?_
  refine l_iadd ok dL_law_1609 ?_
  refine l_sld ok ol.2.2.2.1 ol.2.2.2.2.1 ol.2.2.2.2.2.1 ol.2.2.2.2.2.2.1 (by omega) (by omega) (by omega) dL_law_1610 ?_
  refine l_aload_n ok dL_law_1611 0 rfl ?_
  refine l_iload ok dL_law_1612 4 rfl ?_
  refine l_iconst ok dL_law_1614 ?_
  refine l_iadd ok dL_law_1615 ?_
  refine l_sld ok ol.2.2.2.1 ol.2.2.2.2.1 ol.2.2.2.2.2.1 ol.2.2.2.2.2.2.1 (by omega) (by omega) (by omega) dL_law_1616 ?_
  refine l_aload_n ok dL_law_1617 3 rfl ?_
  refine l_help (st := []) ok ol.2.2.1 hs_L_218 (c_L_greatest X.2.1 ol.2.1 Y ok.2.2.2.2.2.2.2.2 h) ⟨rfl, rfl, Nat.le_of_ble_eq_true rfl, Nat.le_of_ble_eq_true rfl⟩ hb rfl rfl (Nat.le_of_ble_eq_true rfl) dL_law_1618 (fun σ1 k1 h => ?_)
  refine l_istore (lv' := [(5, .inl k1), (0, .inr (.inr 1000)), (1, .inr (.inr 0)), (2, .inr (.inr 72)), (3, .inr (.inr 117)), (4, .inl i)]) ok dL_law_1621 (by decide) rfl ?_
  refine l_aload_n ok dL_law_1623 3 rfl ?_
  refine l_aload_n ok dL_law_1624 1 rfl ?_
  refine l_iload ok dL_law_1625 5 rfl ?_
  refine l_iconst ok dL_law_1627 ?_
  refine l_iadd ok dL_law_1628 ?_
  refine l_sld ok ol.2.2.2.1 ol.2.2.2.2.1 ol.2.2.2.2.2.1 ol.2.2.2.2.2.2.1 (by omega) (by omega) (by omega) dL_law_1629 ?_
  refine l_aload_n ok dL_law_1630 1 rfl ?_
  refine l_iload ok dL_law_1631 5 rfl ?_
  refine l_iconst ok dL_law_1633 ?_
  refine l_iadd ok dL_law_1634 ?_
  refine l_sld ok ol.2.2.2.1 ol.2.2.2.2.1 ol.2.2.2.2.2.1 ol.2.2.2.2.2.2.1 (by omega) (by omega) (by omega) dL_law_1635 ?_
  refine l_callVI (st := []) ok ⟨by show _ ≤ 1165; omega, by show _ ≤ 30866; omega⟩ cs_L_220 kW_72 rfl (fr_I sub_M (inj_ok ok) (A_ok ok sub_M) (c_X10_greatest X.2.1 (Ysub Y 72 KM.length) (Ysub_D sub_M (inj_ok ok)) h)) ⟨rfl, rfl, Nat.le_of_ble_eq_true rfl, Nat.le_of_ble_eq_true rfl⟩ rfl rfl (Nat.le_of_ble_eq_true rfl) dL_law_1636 (fun σ2 r1 h => ?_)
  obtain ⟨u1, h, hu1⟩ := h
  have h := h σ2 hu1
  refine l_istore (lv' := [(6, .inl r1), (5, .inl k1), (0, .inr (.inr 1000)), (1, .inr (.inr 0)), (2, .inr (.inr 72)), (3, .inr (.inr 117)), (4, .inl i)]) ok dL_law_1639 (by decide) rfl ?_
  refine l_aload_n ok dL_law_1641 4 rfl ?_
  refine l_callVI (st := []) ok ⟨by show _ ≤ 1165; omega, by show _ ≤ 30866; omega⟩ cs_L_115 kW_72 rfl (fr_I sub_M (inj_ok ok) (A_ok ok sub_M) (c_X10_thrown X.2.1 (Ysub Y 72 KM.length) (Ysub_D sub_M (inj_ok ok)) h)) ⟨rfl, rfl, Nat.le_of_ble_eq_true rfl, Nat.le_of_ble_eq_true rfl⟩ rfl rfl (Nat.le_of_ble_eq_true rfl) dL_law_1642 (fun σ3 r2 h => ?_)
  obtain ⟨u2, h, hu2⟩ := h
  have h := h σ3 hu2
  refine l_iload ok dL_law_1645 1 rfl ?_
  obtain ⟨g1, g2, hA3a, hA3b⟩ := h
  refine l_icmp_eq (tgt := 1652) ok dL_law_1647 (by decide) g1 g2 (fun c3 => ?_) (fun c3 => ?_)
  · have h := hA3a c3
    refine l_iload ok dL_law_1652 1 rfl ?_
    obtain ⟨g3, hA2a, hA2b⟩ := h
    refine l_if_ne (tgt := 1669) ok dL_law_1654 (by decide) g3 (fun c2 => ?_) (fun c2 => ?_)
    · have h := hA2a c2
      refine l_goto (tgt := 1908) ok dL_law_1669 (by decide) ?_
      refine l_sub [2, 3, 4, 5, 6] rfl ?_
      exact hk σ3 h
    · have h := hA2b c2
      refine l_aload_n ok dL_law_1657 5 rfl ?_
      refine l_iconst ok dL_law_1658 ?_
      refine l_lald ok kW_ok kW_117 (by decide) (by decide) dL_law_1659 ?_
      refine l_iload ok dL_law_1660 0 rfl ?_
      refine l_i2l ok dL_law_1662 ?_
      refine l_lcmp ok dL_law_1663 ?_
      obtain ⟨g4, hA1a, hA1b⟩ := h
      refine l_if_eq (tgt := 1669) ok dL_law_1664 (by decide) g4 (fun c1 => ?_) (fun c1 => ?_)
      · have h := hA1a c1
        refine l_goto (tgt := 1908) ok dL_law_1669 (by decide) ?_
        refine l_sub [2, 3, 4, 5, 6] rfl ?_
        exact hk σ3 h
      · have h := hA1b c1
        exact h.elim
  · have h := hA3b c3
    exact h.elim
def f_W_32 (xs : Nat → Int32) (i : Int) (σ : St) (k : St → Prop) : Prop :=
  f_L_values (xs (i + 1).toNat).toInt (xs (i + 2).toNat).toInt σ (fun σ1 k1 => f_X10_values (xs (i + 1).toNat).toInt (xs (i + 2).toNat).toInt (ssub σ1 72) (fun u1 r1 => ∀ σ2 : St, σ2 = mM σ1 u1 → f_X10_thrown (ssub σ2 72) (fun u2 r2 => ∀ σ3 : St, σ3 = mM σ2 u2 → inR r2 ∧ inR k1 ∧ ((r2 = k1 → inR k1 ∧ ((¬ k1 = 0 → k σ3) ∧ (k1 = 0 → inR (lcmp64 (σ3 117 0) (i2l64 r1)) ∧ (((lcmp64 (σ3 117 0) (i2l64 r1)) = 0 → k σ3) ∧ (¬ (lcmp64 (σ3 117 0) (i2l64 r1)) = 0 → False))))) ∧ (¬ r2 = k1 → False)))))
set_option maxRecDepth 100000 in
set_option maxHeartbeats 4000000 in
theorem w_W_32 {X : Cx} {Y : Cy} {Q : State → Prop} {kc ks b0 L : Nat} {xs : Nat → Int32} {i : Int} {σ : St} {k : St → Prop} (ol : OL X Y b0 L xs) (hi : 0 ≤ i) (hi2 : i + 2 < L) (hb : kc + 1 ≤ 1165 ∧ ks + 6 ≤ 30866) (hk : ∀ σ', k σ' → Lq X Y KW 7 Q (kc + 1) (ks + 6) σ' 1908 [(0, .inr (.inr 1000)), (1, .inr (.inr 0)), (2, .inr (.inr 72)), (3, .inr (.inr 117)), (4, .inl i)] []) (h : f_W_32 xs i σ k) : Lq X Y KW 7 Q kc ks σ 1672 [(0, .inr (.inr 1000)), (1, .inr (.inr 0)), (2, .inr (.inr 72)), (3, .inr (.inr 117)), (4, .inl i)] [] := by
  have ok : Ok X Y KW cL_law 7 RL room_1 ret := ol.1
  have hL := ol.2.2.2.2.2.2.2
  unfold f_W_32 at h
  refine l_aload_n ok dL_law_1672 1 rfl ?_
  refine l_aload_n ok dL_law_1673 0 rfl ?_
  refine l_iload ok dL_law_1674 4 rfl ?_
  refine l_iconst ok dL_law_1676 ?_
  refine l_iadd ok dL_law_1677 ?_
  refine l_sld ok ol.2.2.2.1 ol.2.2.2.2.1 ol.2.2.2.2.2.1 ol.2.2.2.2.2.2.1 (by omega) (by omega) (by omega) dL_law_1678 ?_
  refine l_aload_n ok dL_law_1679 0 rfl ?_
  refine l_iload ok dL_law_1680 4 rfl ?_
  refine l_iconst ok dL_law_1682 ?_
  refine l_iadd ok dL_law_1683 ?_
  refine l_sld ok ol.2.2.2.1 ol.2.2.2.2.1 ol.2.2.2.2.2.1 ol.2.2.2.2.2.2.1 (by omega) (by omega) (by omega) dL_law_1684 ?_
  refine l_aload_n ok dL_law_1685 3 rfl ?_
  refine l_help (st := []) ok ol.2.2.1 hs_L_221 (c_L_values X.2.1 ol.2.1 Y ok.2.2.2.2.2.2.2.2 h) ⟨rfl, rfl, Nat.le_of_ble_eq_true rfl, Nat.le_of_ble_eq_true rfl⟩ hb rfl rfl (Nat.le_of_ble_eq_true rfl) dL_law_1686 (fun σ1 k1 h => ?_)
  refine l_istore (lv' := [(5, .inl k1), (0, .inr (.inr 1000)), (1, .inr (.inr 0)), (2, .inr (.inr 72)), (3, .inr (.inr 117)), (4, .inl i)]) ok dL_law_1689 (by decide) rfl ?_
  refine l_aload_n ok dL_law_1691 3 rfl ?_
  refine l_aload_n ok dL_law_1692 1 rfl ?_
  refine l_iload ok dL_law_1693 5 rfl ?_
  refine l_iconst ok dL_law_1695 ?_
  refine l_iadd ok dL_law_1696 ?_
  refine l_sld ok ol.2.2.2.1 ol.2.2.2.2.1 ol.2.2.2.2.2.1 ol.2.2.2.2.2.2.1 (by omega) (by omega) (by omega) dL_law_1697 ?_
  refine l_aload_n ok dL_law_1698 1 rfl ?_
  refine l_iload ok dL_law_1699 5 rfl ?_
  refine l_iconst ok dL_law_1701 ?_
  refine l_iadd ok dL_law_1702 ?_
  refine l_sld ok ol.2.2.2.1 ol.2.2.2.2.1 ol.2.2.2.2.2.1 ol.2.2.2.2.2.2.1 (by omega) (by omega) (by omega) dL_law_1703 ?_
  refine l_callVI (st := []) ok ⟨by show _ ≤ 1165; omega, by show _ ≤ 30866; omega⟩ cs_L_223 kW_72 rfl (fr_I sub_M (inj_ok ok) (A_ok ok sub_M) (c_X10_values X.2.1 (Ysub Y 72 KM.length) (Ysub_D sub_M (inj_ok ok)) h)) ⟨rfl, rfl, Nat.le_of_ble_eq_true rfl, Nat.le_of_ble_eq_true rfl⟩ rfl rfl (Nat.le_of_ble_eq_true rfl) dL_law_1704 (fun σ2 r1 h => ?_)
  obtain ⟨u1, h, hu1⟩ := h
  have h := h σ2 hu1
  refine l_istore (lv' := [(6, .inl r1), (5, .inl k1), (0, .inr (.inr 1000)), (1, .inr (.inr 0)), (2, .inr (.inr 72)), (3, .inr (.inr 117)), (4, .inl i)]) ok dL_law_1707 (by decide) rfl ?_
  refine l_aload_n ok dL_law_1709 4 rfl ?_
  refine l_callVI (st := []) ok ⟨by show _ ≤ 1165; omega, by show _ ≤ 30866; omega⟩ cs_L_115 kW_72 rfl (fr_I sub_M (inj_ok ok) (A_ok ok sub_M) (c_X10_thrown X.2.1 (Ysub Y 72 KM.length) (Ysub_D sub_M (inj_ok ok)) h)) ⟨rfl, rfl, Nat.le_of_ble_eq_true rfl, Nat.le_of_ble_eq_true rfl⟩ rfl rfl (Nat.le_of_ble_eq_true rfl) dL_law_1710 (fun σ3 r2 h => ?_)
  obtain ⟨u2, h, hu2⟩ := h
  have h := h σ3 hu2
  refine l_iload ok dL_law_1713 1 rfl ?_
  obtain ⟨g1, g2, hA3a, hA3b⟩ := h
  refine l_icmp_eq (tgt := 1720) ok dL_law_1715 (by decide) g1 g2 (fun c3 => ?_) (fun c3 => ?_)
  · have h := hA3a c3
    refine l_iload ok dL_law_1720 1 rfl ?_
    obtain ⟨g3, hA2a, hA2b⟩ := h
    refine l_if_ne (tgt := 1737) ok dL_law_1722 (by decide) g3 (fun c2 => ?_) (fun c2 => ?_)
    · have h := hA2a c2
      refine l_goto (tgt := 1908) ok dL_law_1737 (by decide) ?_
      refine l_sub [2, 3, 4, 5, 6] rfl ?_
      exact hk σ3 h
    · have h := hA2b c2
      refine l_aload_n ok dL_law_1725 5 rfl ?_
      refine l_iconst ok dL_law_1726 ?_
      refine l_lald ok kW_ok kW_117 (by decide) (by decide) dL_law_1727 ?_
      refine l_iload ok dL_law_1728 0 rfl ?_
      refine l_i2l ok dL_law_1730 ?_
      refine l_lcmp ok dL_law_1731 ?_
      obtain ⟨g4, hA1a, hA1b⟩ := h
      refine l_if_eq (tgt := 1737) ok dL_law_1732 (by decide) g4 (fun c1 => ?_) (fun c1 => ?_)
      · have h := hA1a c1
        refine l_goto (tgt := 1908) ok dL_law_1737 (by decide) ?_
        refine l_sub [2, 3, 4, 5, 6] rfl ?_
        exact hk σ3 h
      · have h := hA1b c1
        exact h.elim
  · have h := hA3b c3
    exact h.elim
def f_W_33 (xs : Nat → Int32) (i : Int) (σ : St) (k : St → Prop) : Prop :=
  f_L_hubs (xs (i + 1).toNat).toInt σ (fun σ1 k1 => f_X10_hubs (xs (i + 1).toNat).toInt (ssub σ1 72) (fun u1 r1 => ∀ σ2 : St, σ2 = mM σ1 u1 → f_X10_thrown (ssub σ2 72) (fun u2 r2 => ∀ σ3 : St, σ3 = mM σ2 u2 → inR r2 ∧ inR k1 ∧ ((r2 = k1 → inR k1 ∧ ((¬ k1 = 0 → k σ3) ∧ (k1 = 0 → inR (lcmp64 (σ3 117 0) (i2l64 r1)) ∧ (((lcmp64 (σ3 117 0) (i2l64 r1)) = 0 → k σ3) ∧ (¬ (lcmp64 (σ3 117 0) (i2l64 r1)) = 0 → False))))) ∧ (¬ r2 = k1 → False)))))
set_option maxRecDepth 100000 in
set_option maxHeartbeats 4000000 in
theorem w_W_33 {X : Cx} {Y : Cy} {Q : State → Prop} {kc ks b0 L : Nat} {xs : Nat → Int32} {i : Int} {σ : St} {k : St → Prop} (ol : OL X Y b0 L xs) (hi : 0 ≤ i) (hi2 : i + 2 < L) (hb : kc + 1 ≤ 1165 ∧ ks + 6 ≤ 30866) (hk : ∀ σ', k σ' → Lq X Y KW 7 Q (kc + 1) (ks + 6) σ' 1908 [(0, .inr (.inr 1000)), (1, .inr (.inr 0)), (2, .inr (.inr 72)), (3, .inr (.inr 117)), (4, .inl i)] []) (h : f_W_33 xs i σ k) : Lq X Y KW 7 Q kc ks σ 1740 [(0, .inr (.inr 1000)), (1, .inr (.inr 0)), (2, .inr (.inr 72)), (3, .inr (.inr 117)), (4, .inl i)] [] := by
  have ok : Ok X Y KW cL_law 7 RL room_1 ret := ol.1
  have hL := ol.2.2.2.2.2.2.2
  unfold f_W_33 at h
  refine l_aload_n ok dL_law_1740 1 rfl ?_
  refine l_aload_n ok dL_law_1741 0 rfl ?_
  refine l_iload ok dL_law_1742 4 rfl ?_
  refine l_iconst ok dL_law_1744 ?_
  refine l_iadd ok dL_law_1745 ?_
  refine l_sld ok ol.2.2.2.1 ol.2.2.2.2.1 ol.2.2.2.2.2.1 ol.2.2.2.2.2.2.1 (by omega) (by omega) (by omega) dL_law_1746 ?_
  refine l_aload_n ok dL_law_1747 3 rfl ?_
  refine l_help (st := []) ok ol.2.2.1 hs_L_224 (c_L_hubs X.2.1 ol.2.1 Y ok.2.2.2.2.2.2.2.2 h) ⟨rfl, rfl, Nat.le_of_ble_eq_true rfl, Nat.le_of_ble_eq_true rfl⟩ hb rfl rfl (Nat.le_of_ble_eq_true rfl) dL_law_1748 (fun σ1 k1 h => ?_)
  refine l_istore (lv' := [(5, .inl k1), (0, .inr (.inr 1000)), (1, .inr (.inr 0)), (2, .inr (.inr 72)), (3, .inr (.inr 117)), (4, .inl i)]) ok dL_law_1751 (by decide) rfl ?_
  refine l_aload_n ok dL_law_1753 3 rfl ?_
  refine l_aload_n ok dL_law_1754 1 rfl ?_
  refine l_iload ok dL_law_1755 5 rfl ?_
  refine l_iconst ok dL_law_1757 ?_
  refine l_iadd ok dL_law_1758 ?_
  refine l_sld ok ol.2.2.2.1 ol.2.2.2.2.1 ol.2.2.2.2.2.1 ol.2.2.2.2.2.2.1 (by omega) (by omega) (by omega) dL_law_1759 ?_
  refine l_callVI (st := []) ok ⟨by show _ ≤ 1165; omega, by show _ ≤ 30866; omega⟩ cs_L_226 kW_72 rfl (fr_I sub_M (inj_ok ok) (A_ok ok sub_M) (c_X10_hubs X.2.1 (Ysub Y 72 KM.length) (Ysub_D sub_M (inj_ok ok)) h)) ⟨rfl, rfl, Nat.le_of_ble_eq_true rfl, Nat.le_of_ble_eq_true rfl⟩ rfl rfl (Nat.le_of_ble_eq_true rfl) dL_law_1760 (fun σ2 r1 h => ?_)
  obtain ⟨u1, h, hu1⟩ := h
  have h := h σ2 hu1
  refine l_istore (lv' := [(6, .inl r1), (5, .inl k1), (0, .inr (.inr 1000)), (1, .inr (.inr 0)), (2, .inr (.inr 72)), (3, .inr (.inr 117)), (4, .inl i)]) ok dL_law_1763 (by decide) rfl ?_
  refine l_aload_n ok dL_law_1765 4 rfl ?_
  refine l_callVI (st := []) ok ⟨by show _ ≤ 1165; omega, by show _ ≤ 30866; omega⟩ cs_L_115 kW_72 rfl (fr_I sub_M (inj_ok ok) (A_ok ok sub_M) (c_X10_thrown X.2.1 (Ysub Y 72 KM.length) (Ysub_D sub_M (inj_ok ok)) h)) ⟨rfl, rfl, Nat.le_of_ble_eq_true rfl, Nat.le_of_ble_eq_true rfl⟩ rfl rfl (Nat.le_of_ble_eq_true rfl) dL_law_1766 (fun σ3 r2 h => ?_)
  obtain ⟨u2, h, hu2⟩ := h
  have h := h σ3 hu2
  refine l_iload ok dL_law_1769 1 rfl ?_
  obtain ⟨g1, g2, hA3a, hA3b⟩ := h
  refine l_icmp_eq (tgt := 1776) ok dL_law_1771 (by decide) g1 g2 (fun c3 => ?_) (fun c3 => ?_)
  · have h := hA3a c3
    refine l_iload ok dL_law_1776 1 rfl ?_
    obtain ⟨g3, hA2a, hA2b⟩ := h
    refine l_if_ne (tgt := 1793) ok dL_law_1778 (by decide) g3 (fun c2 => ?_) (fun c2 => ?_)
    · have h := hA2a c2
      refine l_goto (tgt := 1908) ok dL_law_1793 (by decide) ?_
      refine l_sub [2, 3, 4, 5, 6] rfl ?_
      exact hk σ3 h
    · have h := hA2b c2
      refine l_aload_n ok dL_law_1781 5 rfl ?_
      refine l_iconst ok dL_law_1782 ?_
      refine l_lald ok kW_ok kW_117 (by decide) (by decide) dL_law_1783 ?_
      refine l_iload ok dL_law_1784 0 rfl ?_
      refine l_i2l ok dL_law_1786 ?_
      refine l_lcmp ok dL_law_1787 ?_
      obtain ⟨g4, hA1a, hA1b⟩ := h
      refine l_if_eq (tgt := 1793) ok dL_law_1788 (by decide) g4 (fun c1 => ?_) (fun c1 => ?_)
      · have h := hA1a c1
        refine l_goto (tgt := 1908) ok dL_law_1793 (by decide) ?_
        refine l_sub [2, 3, 4, 5, 6] rfl ?_
        exact hk σ3 h
      · have h := hA1b c1
        exact h.elim
  · have h := hA3b c3
    exact h.elim
def f_W_34 (xs : Nat → Int32) (i : Int) (σ : St) (k : St → Prop) : Prop :=
  f_L_verdict (xs (i + 1).toNat).toInt σ (fun σ1 k1 => f_X10_verdict (xs (i + 1).toNat).toInt (ssub σ1 72) (fun u1 r1 => ∀ σ2 : St, σ2 = mM σ1 u1 → f_X10_thrown (ssub σ2 72) (fun u2 r2 => ∀ σ3 : St, σ3 = mM σ2 u2 → inR r2 ∧ inR k1 ∧ ((r2 = k1 → inR k1 ∧ ((¬ k1 = 0 → k σ3) ∧ (k1 = 0 → inR (lcmp64 (σ3 117 0) (i2l64 r1)) ∧ (((lcmp64 (σ3 117 0) (i2l64 r1)) = 0 → k σ3) ∧ (¬ (lcmp64 (σ3 117 0) (i2l64 r1)) = 0 → False))))) ∧ (¬ r2 = k1 → False)))))
set_option maxRecDepth 100000 in
set_option maxHeartbeats 4000000 in
theorem w_W_34 {X : Cx} {Y : Cy} {Q : State → Prop} {kc ks b0 L : Nat} {xs : Nat → Int32} {i : Int} {σ : St} {k : St → Prop} (ol : OL X Y b0 L xs) (hi : 0 ≤ i) (hi2 : i + 2 < L) (hb : kc + 1 ≤ 1165 ∧ ks + 6 ≤ 30866) (hk : ∀ σ', k σ' → Lq X Y KW 7 Q (kc + 1) (ks + 6) σ' 1908 [(0, .inr (.inr 1000)), (1, .inr (.inr 0)), (2, .inr (.inr 72)), (3, .inr (.inr 117)), (4, .inl i)] []) (h : f_W_34 xs i σ k) : Lq X Y KW 7 Q kc ks σ 1796 [(0, .inr (.inr 1000)), (1, .inr (.inr 0)), (2, .inr (.inr 72)), (3, .inr (.inr 117)), (4, .inl i)] [] := by
  have ok : Ok X Y KW cL_law 7 RL room_1 ret := ol.1
  have hL := ol.2.2.2.2.2.2.2
  unfold f_W_34 at h
  refine l_aload_n ok dL_law_1796 1 rfl ?_
  refine l_aload_n ok dL_law_1797 0 rfl ?_
  refine l_iload ok dL_law_1798 4 rfl ?_
  refine l_iconst ok dL_law_1800 ?_
  refine l_iadd ok dL_law_1801 ?_
  refine l_sld ok ol.2.2.2.1 ol.2.2.2.2.1 ol.2.2.2.2.2.1 ol.2.2.2.2.2.2.1 (by omega) (by omega) (by omega) dL_law_1802 ?_
  refine l_aload_n ok dL_law_1803 3 rfl ?_
  refine l_help (st := []) ok ol.2.2.1 hs_L_227 (c_L_verdict X.2.1 ol.2.1 Y ok.2.2.2.2.2.2.2.2 h) ⟨rfl, rfl, Nat.le_of_ble_eq_true rfl, Nat.le_of_ble_eq_true rfl⟩ hb rfl rfl (Nat.le_of_ble_eq_true rfl) dL_law_1804 (fun σ1 k1 h => ?_)
  refine l_istore (lv' := [(5, .inl k1), (0, .inr (.inr 1000)), (1, .inr (.inr 0)), (2, .inr (.inr 72)), (3, .inr (.inr 117)), (4, .inl i)]) ok dL_law_1807 (by decide) rfl ?_
  refine l_aload_n ok dL_law_1809 3 rfl ?_
  refine l_aload_n ok dL_law_1810 1 rfl ?_
  refine l_iload ok dL_law_1811 5 rfl ?_
  refine l_iconst ok dL_law_1813 ?_
  refine l_iadd ok dL_law_1814 ?_
  refine l_sld ok ol.2.2.2.1 ol.2.2.2.2.1 ol.2.2.2.2.2.1 ol.2.2.2.2.2.2.1 (by omega) (by omega) (by omega) dL_law_1815 ?_
  refine l_callVI (st := []) ok ⟨by show _ ≤ 1165; omega, by show _ ≤ 30866; omega⟩ cs_L_229 kW_72 rfl (fr_I sub_M (inj_ok ok) (A_ok ok sub_M) (c_X10_verdict X.2.1 (Ysub Y 72 KM.length) (Ysub_D sub_M (inj_ok ok)) h)) ⟨rfl, rfl, Nat.le_of_ble_eq_true rfl, Nat.le_of_ble_eq_true rfl⟩ rfl rfl (Nat.le_of_ble_eq_true rfl) dL_law_1816 (fun σ2 r1 h => ?_)
  obtain ⟨u1, h, hu1⟩ := h
  have h := h σ2 hu1
  refine l_istore (lv' := [(6, .inl r1), (5, .inl k1), (0, .inr (.inr 1000)), (1, .inr (.inr 0)), (2, .inr (.inr 72)), (3, .inr (.inr 117)), (4, .inl i)]) ok dL_law_1819 (by decide) rfl ?_
  refine l_aload_n ok dL_law_1821 4 rfl ?_
  refine l_callVI (st := []) ok ⟨by show _ ≤ 1165; omega, by show _ ≤ 30866; omega⟩ cs_L_115 kW_72 rfl (fr_I sub_M (inj_ok ok) (A_ok ok sub_M) (c_X10_thrown X.2.1 (Ysub Y 72 KM.length) (Ysub_D sub_M (inj_ok ok)) h)) ⟨rfl, rfl, Nat.le_of_ble_eq_true rfl, Nat.le_of_ble_eq_true rfl⟩ rfl rfl (Nat.le_of_ble_eq_true rfl) dL_law_1822 (fun σ3 r2 h => ?_)
  obtain ⟨u2, h, hu2⟩ := h
  have h := h σ3 hu2
  refine l_iload ok dL_law_1825 1 rfl ?_
  obtain ⟨g1, g2, hA3a, hA3b⟩ := h
  refine l_icmp_eq (tgt := 1832) ok dL_law_1827 (by decide) g1 g2 (fun c3 => ?_) (fun c3 => ?_)
  · have h := hA3a c3
    refine l_iload ok dL_law_1832 1 rfl ?_
    obtain ⟨g3, hA2a, hA2b⟩ := h
    refine l_if_ne (tgt := 1849) ok dL_law_1834 (by decide) g3 (fun c2 => ?_) (fun c2 => ?_)
    · have h := hA2a c2
      refine l_goto (tgt := 1908) ok dL_law_1849 (by decide) ?_
      refine l_sub [2, 3, 4, 5, 6] rfl ?_
      exact hk σ3 h
    · have h := hA2b c2
      refine l_aload_n ok dL_law_1837 5 rfl ?_
      refine l_iconst ok dL_law_1838 ?_
      refine l_lald ok kW_ok kW_117 (by decide) (by decide) dL_law_1839 ?_
      refine l_iload ok dL_law_1840 0 rfl ?_
      refine l_i2l ok dL_law_1842 ?_
      refine l_lcmp ok dL_law_1843 ?_
      obtain ⟨g4, hA1a, hA1b⟩ := h
      refine l_if_eq (tgt := 1849) ok dL_law_1844 (by decide) g4 (fun c1 => ?_) (fun c1 => ?_)
      · have h := hA1a c1
        refine l_goto (tgt := 1908) ok dL_law_1849 (by decide) ?_
        refine l_sub [2, 3, 4, 5, 6] rfl ?_
        exact hk σ3 h
      · have h := hA1b c1
        exact h.elim
  · have h := hA3b c3
    exact h.elim
def f_W_35 (xs : Nat → Int32) (i : Int) (σ : St) (k : St → Prop) : Prop :=
  f_L_possible (xs (i + 1).toNat).toInt σ (fun σ1 k1 => f_X10_possible (xs (i + 1).toNat).toInt (ssub σ1 72) (fun u1 r1 => ∀ σ2 : St, σ2 = mM σ1 u1 → f_X10_thrown (ssub σ2 72) (fun u2 r2 => ∀ σ3 : St, σ3 = mM σ2 u2 → inR r2 ∧ inR k1 ∧ ((r2 = k1 → inR k1 ∧ ((¬ k1 = 0 → k σ3) ∧ (k1 = 0 → inR (lcmp64 (σ3 117 0) (i2l64 r1)) ∧ (((lcmp64 (σ3 117 0) (i2l64 r1)) = 0 → k σ3) ∧ (¬ (lcmp64 (σ3 117 0) (i2l64 r1)) = 0 → False))))) ∧ (¬ r2 = k1 → False)))))
set_option maxRecDepth 100000 in
set_option maxHeartbeats 4000000 in
theorem w_W_35 {X : Cx} {Y : Cy} {Q : State → Prop} {kc ks b0 L : Nat} {xs : Nat → Int32} {i : Int} {σ : St} {k : St → Prop} (ol : OL X Y b0 L xs) (hi : 0 ≤ i) (hi2 : i + 2 < L) (hb : kc + 1 ≤ 1165 ∧ ks + 6 ≤ 30866) (hk : ∀ σ', k σ' → Lq X Y KW 7 Q (kc + 1) (ks + 6) σ' 1908 [(0, .inr (.inr 1000)), (1, .inr (.inr 0)), (2, .inr (.inr 72)), (3, .inr (.inr 117)), (4, .inl i)] []) (h : f_W_35 xs i σ k) : Lq X Y KW 7 Q kc ks σ 1852 [(0, .inr (.inr 1000)), (1, .inr (.inr 0)), (2, .inr (.inr 72)), (3, .inr (.inr 117)), (4, .inl i)] [] := by
  have ok : Ok X Y KW cL_law 7 RL room_1 ret := ol.1
  have hL := ol.2.2.2.2.2.2.2
  unfold f_W_35 at h
  refine l_aload_n ok dL_law_1852 1 rfl ?_
  refine l_aload_n ok dL_law_1853 0 rfl ?_
  refine l_iload ok dL_law_1854 4 rfl ?_
  refine l_iconst ok dL_law_1856 ?_
  refine l_iadd ok dL_law_1857 ?_
  refine l_sld ok ol.2.2.2.1 ol.2.2.2.2.1 ol.2.2.2.2.2.1 ol.2.2.2.2.2.2.1 (by omega) (by omega) (by omega) dL_law_1858 ?_
  refine l_aload_n ok dL_law_1859 3 rfl ?_
  refine l_help (st := []) ok ol.2.2.1 hs_L_230 (c_L_possible X.2.1 ol.2.1 Y ok.2.2.2.2.2.2.2.2 h) ⟨rfl, rfl, Nat.le_of_ble_eq_true rfl, Nat.le_of_ble_eq_true rfl⟩ hb rfl rfl (Nat.le_of_ble_eq_true rfl) dL_law_1860 (fun σ1 k1 h => ?_)
  refine l_istore (lv' := [(5, .inl k1), (0, .inr (.inr 1000)), (1, .inr (.inr 0)), (2, .inr (.inr 72)), (3, .inr (.inr 117)), (4, .inl i)]) ok dL_law_1863 (by decide) rfl ?_
  refine l_aload_n ok dL_law_1865 3 rfl ?_
  refine l_aload_n ok dL_law_1866 1 rfl ?_
  refine l_iload ok dL_law_1867 5 rfl ?_
  refine l_iconst ok dL_law_1869 ?_
  refine l_iadd ok dL_law_1870 ?_
  refine l_sld ok ol.2.2.2.1 ol.2.2.2.2.1 ol.2.2.2.2.2.1 ol.2.2.2.2.2.2.1 (by omega) (by omega) (by omega) dL_law_1871 ?_
  refine l_callVI (st := []) ok ⟨by show _ ≤ 1165; omega, by show _ ≤ 30866; omega⟩ cs_L_232 kW_72 rfl (fr_I sub_M (inj_ok ok) (A_ok ok sub_M) (c_X10_possible X.2.1 (Ysub Y 72 KM.length) (Ysub_D sub_M (inj_ok ok)) h)) ⟨rfl, rfl, Nat.le_of_ble_eq_true rfl, Nat.le_of_ble_eq_true rfl⟩ rfl rfl (Nat.le_of_ble_eq_true rfl) dL_law_1872 (fun σ2 r1 h => ?_)
  obtain ⟨u1, h, hu1⟩ := h
  have h := h σ2 hu1
  refine l_istore (lv' := [(6, .inl r1), (5, .inl k1), (0, .inr (.inr 1000)), (1, .inr (.inr 0)), (2, .inr (.inr 72)), (3, .inr (.inr 117)), (4, .inl i)]) ok dL_law_1875 (by decide) rfl ?_
  refine l_aload_n ok dL_law_1877 4 rfl ?_
  refine l_callVI (st := []) ok ⟨by show _ ≤ 1165; omega, by show _ ≤ 30866; omega⟩ cs_L_115 kW_72 rfl (fr_I sub_M (inj_ok ok) (A_ok ok sub_M) (c_X10_thrown X.2.1 (Ysub Y 72 KM.length) (Ysub_D sub_M (inj_ok ok)) h)) ⟨rfl, rfl, Nat.le_of_ble_eq_true rfl, Nat.le_of_ble_eq_true rfl⟩ rfl rfl (Nat.le_of_ble_eq_true rfl) dL_law_1878 (fun σ3 r2 h => ?_)
  obtain ⟨u2, h, hu2⟩ := h
  have h := h σ3 hu2
  refine l_iload ok dL_law_1881 1 rfl ?_
  obtain ⟨g1, g2, hA3a, hA3b⟩ := h
  refine l_icmp_eq (tgt := 1888) ok dL_law_1883 (by decide) g1 g2 (fun c3 => ?_) (fun c3 => ?_)
  · have h := hA3a c3
    refine l_iload ok dL_law_1888 1 rfl ?_
    obtain ⟨g3, hA2a, hA2b⟩ := h
    refine l_if_ne (tgt := 1905) ok dL_law_1890 (by decide) g3 (fun c2 => ?_) (fun c2 => ?_)
    · have h := hA2a c2
      refine l_goto (tgt := 1908) ok dL_law_1905 (by decide) ?_
      refine l_sub [2, 3, 4, 5, 6] rfl ?_
      exact hk σ3 h
    · have h := hA2b c2
      refine l_aload_n ok dL_law_1893 5 rfl ?_
      refine l_iconst ok dL_law_1894 ?_
      refine l_lald ok kW_ok kW_117 (by decide) (by decide) dL_law_1895 ?_
      refine l_iload ok dL_law_1896 0 rfl ?_
      refine l_i2l ok dL_law_1898 ?_
      refine l_lcmp ok dL_law_1899 ?_
      obtain ⟨g4, hA1a, hA1b⟩ := h
      refine l_if_eq (tgt := 1905) ok dL_law_1900 (by decide) g4 (fun c1 => ?_) (fun c1 => ?_)
      · have h := hA1a c1
        refine l_goto (tgt := 1908) ok dL_law_1905 (by decide) ?_
        refine l_sub [2, 3, 4, 5, 6] rfl ?_
        exact hk σ3 h
      · have h := hA1b c1
        exact h.elim
  · have h := hA3b c3
    exact h.elim
def f_W (xs : Nat → Int32) (i : Int) (σ : St) (k : St → Prop) : Prop :=
  ((iand32 (xs i.toNat).toInt 63) = 0 → f_W_0 xs i σ k) ∧ ((iand32 (xs i.toNat).toInt 63) = 1 → f_W_1 xs i σ k) ∧ ((iand32 (xs i.toNat).toInt 63) = 2 → f_W_2 xs i σ k) ∧ ((iand32 (xs i.toNat).toInt 63) = 3 → f_W_3 xs i σ k) ∧ ((iand32 (xs i.toNat).toInt 63) = 4 → f_W_4 xs i σ k) ∧ ((iand32 (xs i.toNat).toInt 63) = 5 → f_W_5 xs i σ k) ∧ ((iand32 (xs i.toNat).toInt 63) = 6 → f_W_6 xs i σ k) ∧ ((iand32 (xs i.toNat).toInt 63) = 7 → f_W_7 xs i σ k) ∧ ((iand32 (xs i.toNat).toInt 63) = 8 → f_W_8 xs i σ k) ∧ ((iand32 (xs i.toNat).toInt 63) = 9 → f_W_9 xs i σ k) ∧ ((iand32 (xs i.toNat).toInt 63) = 10 → f_W_10 xs i σ k) ∧ ((iand32 (xs i.toNat).toInt 63) = 11 → f_W_11 xs i σ k) ∧ ((iand32 (xs i.toNat).toInt 63) = 12 → f_W_12 xs i σ k) ∧ ((iand32 (xs i.toNat).toInt 63) = 13 → f_W_13 xs i σ k) ∧ ((iand32 (xs i.toNat).toInt 63) = 14 → f_W_14 xs i σ k) ∧ ((iand32 (xs i.toNat).toInt 63) = 15 → f_W_15 xs i σ k) ∧ ((iand32 (xs i.toNat).toInt 63) = 16 → f_W_16 xs i σ k) ∧ ((iand32 (xs i.toNat).toInt 63) = 17 → f_W_17 xs i σ k) ∧ ((iand32 (xs i.toNat).toInt 63) = 18 → f_W_18 xs i σ k) ∧ ((iand32 (xs i.toNat).toInt 63) = 19 → f_W_19 xs i σ k) ∧ ((iand32 (xs i.toNat).toInt 63) = 20 → f_W_20 xs i σ k) ∧ ((iand32 (xs i.toNat).toInt 63) = 21 → f_W_21 xs i σ k) ∧ ((iand32 (xs i.toNat).toInt 63) = 22 → f_W_22 xs i σ k) ∧ ((iand32 (xs i.toNat).toInt 63) = 23 → f_W_23 xs i σ k) ∧ ((iand32 (xs i.toNat).toInt 63) = 24 → f_W_24 xs i σ k) ∧ ((iand32 (xs i.toNat).toInt 63) = 25 → f_W_25 xs i σ k) ∧ ((iand32 (xs i.toNat).toInt 63) = 26 → f_W_26 xs i σ k) ∧ ((iand32 (xs i.toNat).toInt 63) = 27 → f_W_27 xs i σ k) ∧ ((iand32 (xs i.toNat).toInt 63) = 28 → f_W_28 xs i σ k) ∧ ((iand32 (xs i.toNat).toInt 63) = 29 → f_W_29 xs i σ k) ∧ ((iand32 (xs i.toNat).toInt 63) = 30 → f_W_30 xs i σ k) ∧ ((iand32 (xs i.toNat).toInt 63) = 31 → f_W_31 xs i σ k) ∧ ((iand32 (xs i.toNat).toInt 63) = 32 → f_W_32 xs i σ k) ∧ ((iand32 (xs i.toNat).toInt 63) = 33 → f_W_33 xs i σ k) ∧ ((iand32 (xs i.toNat).toInt 63) = 34 → f_W_34 xs i σ k) ∧ ((iand32 (xs i.toNat).toInt 63) = 35 → f_W_35 xs i σ k) ∧ (((iand32 (xs i.toNat).toInt 63) < 0 ∨ 35 < (iand32 (xs i.toNat).toInt 63)) → k σ)
def f_law (xs : Nat → Int32) (L : Nat) : Nat → St → Nat → Prop
  | 0, _, _ => False
  | n + 1, σ, j => (3 * (j : Int) + 3 ≤ L → f_W xs (3 * (j : Int)) σ (fun σ' => f_law xs L n σ' (j + 1)))
set_option maxRecDepth 100000 in
set_option maxHeartbeats 4000000 in
theorem w_W {X : Cx} {Y : Cy} {Q : State → Prop} {kc ks b0 L : Nat} {xs : Nat → Int32} {i : Int} {σ : St} {k : St → Prop} (ol : OL X Y b0 L xs) (hi : 0 ≤ i) (hi2 : i + 2 < L) (hb : kc + 1 ≤ 1165 ∧ ks + 6 ≤ 30866) (hk : ∀ σ', k σ' → Lq X Y KW 7 Q (kc + 1) (ks + 6) σ' 1908 [(0, .inr (.inr 1000)), (1, .inr (.inr 0)), (2, .inr (.inr 72)), (3, .inr (.inr 117)), (4, .inl i)] []) (h : f_W xs i σ k) : Lq X Y KW 7 Q kc ks σ 32 [(0, .inr (.inr 1000)), (1, .inr (.inr 0)), (2, .inr (.inr 72)), (3, .inr (.inr 117)), (4, .inl i)] [] := by
  have ok : Ok X Y KW cL_law 7 RL room_1 ret := ol.1
  have hL := ol.2.2.2.2.2.2.2
  unfold f_W at h
  refine l_aload_n ok dL_law_32 0 rfl ?_
  refine l_iload ok dL_law_33 4 rfl ?_
  refine l_sld ok ol.2.2.2.1 ol.2.2.2.2.1 ol.2.2.2.2.2.1 ol.2.2.2.2.2.2.1 (by omega) (by omega) (by omega) dL_law_35 ?_
  refine l_bipush ok dL_law_36 rfl ?_
  refine l_iand ok dL_law_38 ?_
  have g : inR (iand32 (xs i.toNat).toInt 63) := toI_inR _
  generalize (iand32 (xs i.toNat).toInt 63) = z at g h ⊢
  obtain ⟨h0, h1, h2, h3, h4, h5, h6, h7, h8, h9, h10, h11, h12, h13, h14, h15, h16, h17, h18, h19, h20, h21, h22, h23, h24, h25, h26, h27, h28, h29, h30, h31, h32, h33, h34, h35, hd⟩ := h
  by_cases c0 : z = 0
  · refine l_tsIn (tgt := 196) ok dL_law_39 g (by omega) (by omega) (by rw [c0]; rfl) (by decide) ?_
    exact w_W_0 ol hi hi2 hb hk (h0 c0)
  by_cases c1 : z = 1
  · refine l_tsIn (tgt := 252) ok dL_law_39 g (by omega) (by omega) (by rw [c1]; rfl) (by decide) ?_
    exact w_W_1 ol hi hi2 hb hk (h1 c1)
  by_cases c2 : z = 2
  · refine l_tsIn (tgt := 265) ok dL_law_39 g (by omega) (by omega) (by rw [c2]; rfl) (by decide) ?_
    exact w_W_2 ol hi hi2 hb hk (h2 c2)
  by_cases c3 : z = 3
  · refine l_tsIn (tgt := 278) ok dL_law_39 g (by omega) (by omega) (by rw [c3]; rfl) (by decide) ?_
    exact w_W_3 ol hi hi2 hb hk (h3 c3)
  by_cases c4 : z = 4
  · refine l_tsIn (tgt := 322) ok dL_law_39 g (by omega) (by omega) (by rw [c4]; rfl) (by decide) ?_
    exact w_W_4 ol hi hi2 hb hk (h4 c4)
  by_cases c5 : z = 5
  · refine l_tsIn (tgt := 378) ok dL_law_39 g (by omega) (by omega) (by rw [c5]; rfl) (by decide) ?_
    exact w_W_5 ol hi hi2 hb hk (h5 c5)
  by_cases c6 : z = 6
  · refine l_tsIn (tgt := 434) ok dL_law_39 g (by omega) (by omega) (by rw [c6]; rfl) (by decide) ?_
    exact w_W_6 ol hi hi2 hb hk (h6 c6)
  by_cases c7 : z = 7
  · refine l_tsIn (tgt := 497) ok dL_law_39 g (by omega) (by omega) (by rw [c7]; rfl) (by decide) ?_
    exact w_W_7 ol hi hi2 hb hk (h7 c7)
  by_cases c8 : z = 8
  · refine l_tsIn (tgt := 553) ok dL_law_39 g (by omega) (by omega) (by rw [c8]; rfl) (by decide) ?_
    exact w_W_8 ol hi hi2 hb hk (h8 c8)
  by_cases c9 : z = 9
  · refine l_tsIn (tgt := 609) ok dL_law_39 g (by omega) (by omega) (by rw [c9]; rfl) (by decide) ?_
    exact w_W_9 ol hi hi2 hb hk (h9 c9)
  by_cases c10 : z = 10
  · refine l_tsIn (tgt := 653) ok dL_law_39 g (by omega) (by omega) (by rw [c10]; rfl) (by decide) ?_
    exact w_W_10 ol hi hi2 hb hk (h10 c10)
  by_cases c11 : z = 11
  · refine l_tsIn (tgt := 709) ok dL_law_39 g (by omega) (by omega) (by rw [c11]; rfl) (by decide) ?_
    exact w_W_11 ol hi hi2 hb hk (h11 c11)
  by_cases c12 : z = 12
  · refine l_tsIn (tgt := 753) ok dL_law_39 g (by omega) (by omega) (by rw [c12]; rfl) (by decide) ?_
    exact w_W_12 ol hi hi2 hb hk (h12 c12)
  by_cases c13 : z = 13
  · refine l_tsIn (tgt := 766) ok dL_law_39 g (by omega) (by omega) (by rw [c13]; rfl) (by decide) ?_
    exact w_W_13 ol hi hi2 hb hk (h13 c13)
  by_cases c14 : z = 14
  · refine l_tsIn (tgt := 779) ok dL_law_39 g (by omega) (by omega) (by rw [c14]; rfl) (by decide) ?_
    exact w_W_14 ol hi hi2 hb hk (h14 c14)
  by_cases c15 : z = 15
  · refine l_tsIn (tgt := 792) ok dL_law_39 g (by omega) (by omega) (by rw [c15]; rfl) (by decide) ?_
    exact w_W_15 ol hi hi2 hb hk (h15 c15)
  by_cases c16 : z = 16
  · refine l_tsIn (tgt := 805) ok dL_law_39 g (by omega) (by omega) (by rw [c16]; rfl) (by decide) ?_
    exact w_W_16 ol hi hi2 hb hk (h16 c16)
  by_cases c17 : z = 17
  · refine l_tsIn (tgt := 818) ok dL_law_39 g (by omega) (by omega) (by rw [c17]; rfl) (by decide) ?_
    exact w_W_17 ol hi hi2 hb hk (h17 c17)
  by_cases c18 : z = 18
  · refine l_tsIn (tgt := 874) ok dL_law_39 g (by omega) (by omega) (by rw [c18]; rfl) (by decide) ?_
    exact w_W_18 ol hi hi2 hb hk (h18 c18)
  by_cases c19 : z = 19
  · refine l_tsIn (tgt := 930) ok dL_law_39 g (by omega) (by omega) (by rw [c19]; rfl) (by decide) ?_
    exact w_W_19 ol hi hi2 hb hk (h19 c19)
  by_cases c20 : z = 20
  · refine l_tsIn (tgt := 986) ok dL_law_39 g (by omega) (by omega) (by rw [c20]; rfl) (by decide) ?_
    exact w_W_20 ol hi hi2 hb hk (h20 c20)
  by_cases c21 : z = 21
  · refine l_tsIn (tgt := 999) ok dL_law_39 g (by omega) (by omega) (by rw [c21]; rfl) (by decide) ?_
    exact w_W_21 ol hi hi2 hb hk (h21 c21)
  by_cases c22 : z = 22
  · refine l_tsIn (tgt := 1055) ok dL_law_39 g (by omega) (by omega) (by rw [c22]; rfl) (by decide) ?_
    exact w_W_22 ol hi hi2 hb hk (h22 c22)
  by_cases c23 : z = 23
  · refine l_tsIn (tgt := 1111) ok dL_law_39 g (by omega) (by omega) (by rw [c23]; rfl) (by decide) ?_
    exact w_W_23 ol hi hi2 hb hk (h23 c23)
  by_cases c24 : z = 24
  · refine l_tsIn (tgt := 1162) ok dL_law_39 g (by omega) (by omega) (by rw [c24]; rfl) (by decide) ?_
    exact w_W_24 ol hi hi2 hb hk (h24 c24)
  by_cases c25 : z = 25
  · refine l_tsIn (tgt := 1218) ok dL_law_39 g (by omega) (by omega) (by rw [c25]; rfl) (by decide) ?_
    exact w_W_25 ol hi hi2 hb hk (h25 c25)
  by_cases c26 : z = 26
  · refine l_tsIn (tgt := 1286) ok dL_law_39 g (by omega) (by omega) (by rw [c26]; rfl) (by decide) ?_
    exact w_W_26 ol hi hi2 hb hk (h26 c26)
  by_cases c27 : z = 27
  · refine l_tsIn (tgt := 1342) ok dL_law_39 g (by omega) (by omega) (by rw [c27]; rfl) (by decide) ?_
    exact w_W_27 ol hi hi2 hb hk (h27 c27)
  by_cases c28 : z = 28
  · refine l_tsIn (tgt := 1417) ok dL_law_39 g (by omega) (by omega) (by rw [c28]; rfl) (by decide) ?_
    exact w_W_28 ol hi hi2 hb hk (h28 c28)
  by_cases c29 : z = 29
  · refine l_tsIn (tgt := 1461) ok dL_law_39 g (by omega) (by omega) (by rw [c29]; rfl) (by decide) ?_
    exact w_W_29 ol hi hi2 hb hk (h29 c29)
  by_cases c30 : z = 30
  · refine l_tsIn (tgt := 1536) ok dL_law_39 g (by omega) (by omega) (by rw [c30]; rfl) (by decide) ?_
    exact w_W_30 ol hi hi2 hb hk (h30 c30)
  by_cases c31 : z = 31
  · refine l_tsIn (tgt := 1604) ok dL_law_39 g (by omega) (by omega) (by rw [c31]; rfl) (by decide) ?_
    exact w_W_31 ol hi hi2 hb hk (h31 c31)
  by_cases c32 : z = 32
  · refine l_tsIn (tgt := 1672) ok dL_law_39 g (by omega) (by omega) (by rw [c32]; rfl) (by decide) ?_
    exact w_W_32 ol hi hi2 hb hk (h32 c32)
  by_cases c33 : z = 33
  · refine l_tsIn (tgt := 1740) ok dL_law_39 g (by omega) (by omega) (by rw [c33]; rfl) (by decide) ?_
    exact w_W_33 ol hi hi2 hb hk (h33 c33)
  by_cases c34 : z = 34
  · refine l_tsIn (tgt := 1796) ok dL_law_39 g (by omega) (by omega) (by rw [c34]; rfl) (by decide) ?_
    exact w_W_34 ol hi hi2 hb hk (h34 c34)
  by_cases c35 : z = 35
  · refine l_tsIn (tgt := 1852) ok dL_law_39 g (by omega) (by omega) (by rw [c35]; rfl) (by decide) ?_
    exact w_W_35 ol hi hi2 hb hk (h35 c35)
  refine l_tsOut (tgt := 1908) ok dL_law_39 g (by omega) (by decide) ?_
  exact l_widen (Nat.le_succ kc) (Nat.le_add_right ks 6) (hk σ (hd (by omega)))
set_option maxRecDepth 100000 in
set_option maxHeartbeats 4000000 in
theorem w_law {X : Cx} {Y : Cy} {Q : State → Prop} {b0 L : Nat} {xs : Nat → Int32} (ol : OL X Y b0 L xs) (hend : ∀ (σ : St) (kc ks : Nat) (j : Nat), kc ≤ 1165 → ks ≤ 30866 → Lq X Y KW 7 Q kc ks σ 1914 [(0, .inr (.inr 1000)), (1, .inr (.inr 0)), (2, .inr (.inr 72)), (3, .inr (.inr 117)), (4, .inl (3 * (j : Int)))] []) : ∀ (n : Nat) (σ : St) (j : Nat), j ≤ 512 → f_law xs L n σ j → Lq X Y KW 7 Q (118 + j) (22536 + 6 * j) σ 23 [(0, .inr (.inr 1000)), (1, .inr (.inr 0)), (2, .inr (.inr 72)), (3, .inr (.inr 117)), (4, .inl (3 * (j : Int)))] [] := by
  have ok : Ok X Y KW cL_law 7 RL room_1 ret := ol.1
  have hL := ol.2.2.2.2.2.2.2
  intro n
  induction n with
  | zero => intro σ j hj h; exact h.elim
  | succ n ih =>
    intro σ j hj h
    rw [f_law] at h
    refine l_iload ok dL_law_23 4 rfl ?_
    refine l_aload_n ok dL_law_25 0 rfl ?_
    refine l_slen ok ol.2.2.2.1 ol.2.2.2.2.1 ol.2.2.2.2.2.1 ol.2.2.2.2.2.2.1 dL_law_26 ?_
    refine l_iconst ok dL_law_27 ?_
    refine l_isub ok dL_law_28 ?_
    refine l_icmp_gt (tgt := 1914) ok dL_law_29 (by decide) ⟨by omega, by omega⟩ ⟨by omega, by omega⟩ (fun c => hend σ _ _ j (by omega) (by omega)) (fun c => ?_)
    refine w_W ol (by omega) (by omega) ⟨by omega, by omega⟩ (fun σ' h' => ?_) (h (by omega))
    refine l_iinc (lv' := [(4, .inl (3 * (j : Int) + 3)), (0, .inr (.inr 1000)), (1, .inr (.inr 0)), (2, .inr (.inr 72)), (3, .inr (.inr 117))]) ok dL_law_1908 4 rfl (by decide) rfl ?_
    refine l_goto (tgt := 23) ok dL_law_1911 (by decide) ?_
    refine l_sub (lv' := [(0, .inr (.inr 1000)), (1, .inr (.inr 0)), (2, .inr (.inr 72)), (3, .inr (.inr 117)), (4, .inl (3 * (j : Int) + 3))]) [1, 2, 3, 4, 0] rfl ?_
    have w := ih σ' (j + 1) (by omega) h'
    have e1 : 3 * (((j + 1 : Nat)) : Int) = 3 * (j : Int) + 3 := by omega
    rw [e1] at w
    exact w

set_option maxRecDepth 100000 in
theorem t_1733 : (Jvm.Cond.code ({ cls := "ChangePlacesModel", name := "at", desc := "(I)I" } : Jvm.MethodName) prog_14_method_52_code (2 : Nat) (Option.some Jvm.ClassFile.FieldType.int)) ∈ qx_tbl := qx_t8 53 rfl rfl
set_option maxRecDepth 100000 in
theorem t_1734 : (Jvm.Cond.constantLong "ChangePlacesModel" (329 : Nat) (99 : Int64)) ∈ qx_tbl := qx_t8 54 rfl rfl
set_option maxRecDepth 100000 in
theorem t_1735 : (Jvm.Cond.methodLink "ChangePlacesModel" (331 : Nat) ({ cls := "ChangePlacesModel", name := "owesInAll", desc := "(I)I" } : Jvm.MethodName)) ∈ qx_tbl := qx_t8 55 rfl rfl
set_option maxRecDepth 100000 in
theorem t_1737 : (Jvm.Cond.instanceMethod ({ cls := "ChangePlacesModel", name := "owesInAll", desc := "(I)I" } : Jvm.MethodName)) ∈ qx_tbl := qx_t8 57 rfl rfl
set_option maxRecDepth 100000 in
theorem t_1738 : (Jvm.Cond.code ({ cls := "ChangePlacesModel", name := "owesInAll", desc := "(I)I" } : Jvm.MethodName) prog_14_method_55_code (4 : Nat) (Option.some Jvm.ClassFile.FieldType.int)) ∈ qx_tbl := qx_t8 58 rfl rfl
set_option maxRecDepth 100000 in
theorem t_1739 : (Jvm.Cond.methodLink "ChangePlacesModel" (313 : Nat) ({ cls := "ChangePlacesModel", name := "oweOf", desc := "(II)I" } : Jvm.MethodName)) ∈ qx_tbl := qx_t8 59 rfl rfl
set_option maxRecDepth 100000 in
theorem t_1741 : (Jvm.Cond.instanceMethod ({ cls := "ChangePlacesModel", name := "oweOf", desc := "(II)I" } : Jvm.MethodName)) ∈ qx_tbl := qx_t8 61 rfl rfl
set_option maxRecDepth 100000 in
theorem t_1742 : (Jvm.Cond.code ({ cls := "ChangePlacesModel", name := "oweOf", desc := "(II)I" } : Jvm.MethodName) prog_14_method_54_code (3 : Nat) (Option.some Jvm.ClassFile.FieldType.int)) ∈ qx_tbl := qx_t8 62 rfl rfl
set_option maxRecDepth 100000 in
theorem t_1743 : (Jvm.Cond.methodLink "ChangePlacesModel" (345 : Nat) ({ cls := "ChangePlacesModel", name := "holds", desc := "(II)Z" } : Jvm.MethodName)) ∈ qx_tbl := qx_t8 63 rfl rfl
set_option maxRecDepth 100000 in
theorem t_1745 : (Jvm.Cond.instanceMethod ({ cls := "ChangePlacesModel", name := "holds", desc := "(II)Z" } : Jvm.MethodName)) ∈ qx_tbl := qx_t8 65 rfl rfl
set_option maxRecDepth 100000 in
theorem t_1746 : (Jvm.Cond.code ({ cls := "ChangePlacesModel", name := "holds", desc := "(II)Z" } : Jvm.MethodName) prog_14_method_59_code (3 : Nat) (Option.some Jvm.ClassFile.FieldType.boolean)) ∈ qx_tbl := qx_t8 66 rfl rfl
set_option maxRecDepth 100000 in
theorem t_1747 : (Jvm.Cond.methodLink "ChangePlacesModel" (334 : Nat) ({ cls := "ChangePlacesModel", name := "reckons", desc := "(III)J" } : Jvm.MethodName)) ∈ qx_tbl := qx_t8 67 rfl rfl
set_option maxRecDepth 100000 in
theorem t_1749 : (Jvm.Cond.instanceMethod ({ cls := "ChangePlacesModel", name := "reckons", desc := "(III)J" } : Jvm.MethodName)) ∈ qx_tbl := qx_t8 69 rfl rfl
set_option maxRecDepth 100000 in
theorem t_1750 : (Jvm.Cond.code ({ cls := "ChangePlacesModel", name := "reckons", desc := "(III)J" } : Jvm.MethodName) prog_14_method_47_code (11 : Nat) (Option.some Jvm.ClassFile.FieldType.long)) ∈ qx_tbl := qx_t8 70 rfl rfl
set_option maxRecDepth 100000 in
theorem t_1751 : (Jvm.Cond.methodLink "ChangePlacesModel" (301 : Nat) ({ cls := "ChangePlacesModel", name := "push", desc := "(J)V" } : Jvm.MethodName)) ∈ qx_tbl := qx_t8 71 rfl rfl
set_option maxRecDepth 100000 in
theorem t_1753 : (Jvm.Cond.instanceMethod ({ cls := "ChangePlacesModel", name := "push", desc := "(J)V" } : Jvm.MethodName)) ∈ qx_tbl := qx_t8 73 rfl rfl
set_option maxRecDepth 100000 in
theorem t_1754 : (Jvm.Cond.code ({ cls := "ChangePlacesModel", name := "push", desc := "(J)V" } : Jvm.MethodName) prog_14_method_44_code (3 : Nat) (Option.none : Option Jvm.ClassFile.FieldType)) ∈ qx_tbl := qx_t8 74 rfl rfl
set_option maxRecDepth 100000 in
theorem t_1755 : (Jvm.Cond.methodLink "ChangePlacesModel" (305 : Nat) ({ cls := "ChangePlacesModel", name := "pop", desc := "()J" } : Jvm.MethodName)) ∈ qx_tbl := qx_t8 75 rfl rfl
set_option maxRecDepth 100000 in
theorem t_1757 : (Jvm.Cond.instanceMethod ({ cls := "ChangePlacesModel", name := "pop", desc := "()J" } : Jvm.MethodName)) ∈ qx_tbl := qx_t8 77 rfl rfl
set_option maxRecDepth 100000 in
theorem t_1758 : (Jvm.Cond.code ({ cls := "ChangePlacesModel", name := "pop", desc := "()J" } : Jvm.MethodName) prog_14_method_45_code (1 : Nat) (Option.some Jvm.ClassFile.FieldType.long)) ∈ qx_tbl := qx_t8 78 rfl rfl
set_option maxRecDepth 100000 in
theorem t_1759 : (Jvm.Cond.methodLink "ChangePlacesModel" (309 : Nat) ({ cls := "ChangePlacesModel", name := "one", desc := "(IJJ)J" } : Jvm.MethodName)) ∈ qx_tbl := qx_t8 79 rfl rfl
set_option maxRecDepth 100000 in
theorem t_1760 : (Jvm.Cond.static ({ cls := "ChangePlacesModel", name := "one", desc := "(IJJ)J" } : Jvm.MethodName)) ∈ qx_tbl := qx_t8 80 rfl rfl
set_option maxRecDepth 100000 in
theorem t_1761 : (Jvm.Cond.code ({ cls := "ChangePlacesModel", name := "one", desc := "(IJJ)J" } : Jvm.MethodName) prog_14_method_46_code (5 : Nat) (Option.some Jvm.ClassFile.FieldType.long)) ∈ qx_tbl := qx_t8 81 rfl rfl
set_option maxRecDepth 100000 in
theorem t_1762 : (Jvm.Cond.constantLong "ChangePlacesModel" (348 : Nat) (-999 : Int64)) ∈ qx_tbl := qx_t8 82 rfl rfl
set_option maxRecDepth 100000 in
theorem t_1763 : (Jvm.Cond.constantLong "ChangePlacesModel" (350 : Nat) (999 : Int64)) ∈ qx_tbl := qx_t8 83 rfl rfl
set_option maxRecDepth 100000 in
theorem t_1764 : (Jvm.Cond.methodLink "ChangePlacesLaw" (40 : Nat) ({ cls := "ChangePlacesModel", name := "person", desc := "(II)I" } : Jvm.MethodName)) ∈ qx_tbl := qx_t8 84 rfl rfl
set_option maxRecDepth 100000 in
theorem t_1765 : (Jvm.Cond.instanceMethod ({ cls := "ChangePlacesModel", name := "person", desc := "(II)I" } : Jvm.MethodName)) ∈ qx_tbl := qx_t8 85 rfl rfl
set_option maxRecDepth 100000 in
theorem t_1766 : (Jvm.Cond.selects "ChangePlacesModel" ({ cls := "ChangePlacesModel", name := "person", desc := "(II)I" } : Jvm.MethodName) ({ cls := "ChangePlacesModel", name := "person", desc := "(II)I" } : Jvm.MethodName)) ∈ qx_tbl := qx_t8 86 rfl rfl
set_option maxRecDepth 100000 in
theorem t_1767 : (Jvm.Cond.code ({ cls := "ChangePlacesModel", name := "person", desc := "(II)I" } : Jvm.MethodName) prog_14_method_63_code (3 : Nat) (Option.some Jvm.ClassFile.FieldType.int)) ∈ qx_tbl := qx_t8 87 rfl rfl
set_option maxRecDepth 100000 in
theorem t_1768 : (Jvm.Cond.constantLong "ChangePlacesModel" (361 : Nat) (7 : Int64)) ∈ qx_tbl := qx_t8 88 rfl rfl
set_option maxRecDepth 100000 in
theorem t_1769 : (Jvm.Cond.methodLink "ChangePlacesModel" (363 : Nat) ({ cls := "ChangePlacesModel", name := "owedInAll", desc := "(I)I" } : Jvm.MethodName)) ∈ qx_tbl := qx_t8 89 rfl rfl
set_option maxRecDepth 100000 in
theorem t_1771 : (Jvm.Cond.instanceMethod ({ cls := "ChangePlacesModel", name := "owedInAll", desc := "(I)I" } : Jvm.MethodName)) ∈ qx_tbl := qx_t8 91 rfl rfl
set_option maxRecDepth 100000 in
theorem t_1772 : (Jvm.Cond.code ({ cls := "ChangePlacesModel", name := "owedInAll", desc := "(I)I" } : Jvm.MethodName) prog_14_method_56_code (4 : Nat) (Option.some Jvm.ClassFile.FieldType.int)) ∈ qx_tbl := qx_t8 92 rfl rfl
set_option maxRecDepth 100000 in
theorem t_1773 : (Jvm.Cond.methodLink "ChangePlacesModel" (366 : Nat) ({ cls := "ChangePlacesModel", name := "wishesAway", desc := "(I)Z" } : Jvm.MethodName)) ∈ qx_tbl := qx_t8 93 rfl rfl
set_option maxRecDepth 100000 in
theorem t_1775 : (Jvm.Cond.instanceMethod ({ cls := "ChangePlacesModel", name := "wishesAway", desc := "(I)Z" } : Jvm.MethodName)) ∈ qx_tbl := qx_t8 95 rfl rfl
set_option maxRecDepth 100000 in
theorem t_1776 : (Jvm.Cond.code ({ cls := "ChangePlacesModel", name := "wishesAway", desc := "(I)Z" } : Jvm.MethodName) prog_14_method_62_code (4 : Nat) (Option.some Jvm.ClassFile.FieldType.boolean)) ∈ qx_tbl := qx_t8 96 rfl rfl
set_option maxRecDepth 100000 in
theorem t_1777 : (Jvm.Cond.methodLink "ChangePlacesLaw" (44 : Nat) ({ cls := "ChangePlacesModel", name := "wish", desc := "(II)I" } : Jvm.MethodName)) ∈ qx_tbl := qx_t8 97 rfl rfl
set_option maxRecDepth 100000 in
theorem t_1778 : (Jvm.Cond.instanceMethod ({ cls := "ChangePlacesModel", name := "wish", desc := "(II)I" } : Jvm.MethodName)) ∈ qx_tbl := qx_t8 98 rfl rfl
set_option maxRecDepth 100000 in
theorem t_1779 : (Jvm.Cond.selects "ChangePlacesModel" ({ cls := "ChangePlacesModel", name := "wish", desc := "(II)I" } : Jvm.MethodName) ({ cls := "ChangePlacesModel", name := "wish", desc := "(II)I" } : Jvm.MethodName)) ∈ qx_tbl := qx_t8 99 rfl rfl
set_option maxRecDepth 100000 in
theorem t_1780 : (Jvm.Cond.code ({ cls := "ChangePlacesModel", name := "wish", desc := "(II)I" } : Jvm.MethodName) prog_14_method_64_code (3 : Nat) (Option.some Jvm.ClassFile.FieldType.int)) ∈ qx_tbl := qx_t8 100 rfl rfl
set_option maxRecDepth 100000 in
theorem t_1781 : (Jvm.Cond.methodLink "ChangePlacesLaw" (53 : Nat) ({ cls := "ChangePlacesModel", name := "desire", desc := "(III)I" } : Jvm.MethodName)) ∈ qx_tbl := qx_t8 101 rfl rfl
set_option maxRecDepth 100000 in
theorem t_1782 : (Jvm.Cond.instanceMethod ({ cls := "ChangePlacesModel", name := "desire", desc := "(III)I" } : Jvm.MethodName)) ∈ qx_tbl := qx_t8 102 rfl rfl
set_option maxRecDepth 100000 in
theorem t_1783 : (Jvm.Cond.selects "ChangePlacesModel" ({ cls := "ChangePlacesModel", name := "desire", desc := "(III)I" } : Jvm.MethodName) ({ cls := "ChangePlacesModel", name := "desire", desc := "(III)I" } : Jvm.MethodName)) ∈ qx_tbl := qx_t8 103 rfl rfl
set_option maxRecDepth 100000 in
theorem t_1784 : (Jvm.Cond.code ({ cls := "ChangePlacesModel", name := "desire", desc := "(III)I" } : Jvm.MethodName) prog_14_method_65_code (5 : Nat) (Option.some Jvm.ClassFile.FieldType.int)) ∈ qx_tbl := qx_t8 104 rfl rfl
set_option maxRecDepth 100000 in
theorem t_1785 : (Jvm.Cond.methodLink "ChangePlacesLaw" (57 : Nat) ({ cls := "ChangePlacesModel", name := "place", desc := "(II)I" } : Jvm.MethodName)) ∈ qx_tbl := qx_t8 105 rfl rfl
set_option maxRecDepth 100000 in
theorem t_1786 : (Jvm.Cond.instanceMethod ({ cls := "ChangePlacesModel", name := "place", desc := "(II)I" } : Jvm.MethodName)) ∈ qx_tbl := qx_t8 106 rfl rfl
set_option maxRecDepth 100000 in
theorem t_1787 : (Jvm.Cond.selects "ChangePlacesModel" ({ cls := "ChangePlacesModel", name := "place", desc := "(II)I" } : Jvm.MethodName) ({ cls := "ChangePlacesModel", name := "place", desc := "(II)I" } : Jvm.MethodName)) ∈ qx_tbl := qx_t8 107 rfl rfl
set_option maxRecDepth 100000 in
theorem t_1788 : (Jvm.Cond.code ({ cls := "ChangePlacesModel", name := "place", desc := "(II)I" } : Jvm.MethodName) prog_14_method_67_code (7 : Nat) (Option.some Jvm.ClassFile.FieldType.int)) ∈ qx_tbl := qx_t8 108 rfl rfl
set_option maxRecDepth 100000 in
theorem t_1789 : (Jvm.Cond.constantLong "ChangePlacesModel" (369 : Nat) (3 : Int64)) ∈ qx_tbl := qx_t8 109 rfl rfl
set_option maxRecDepth 100000 in
theorem t_1790 : (Jvm.Cond.methodLink "ChangePlacesModel" (371 : Nat) ({ cls := "ChangePlacesModel", name := "callsAt", desc := "(I)I" } : Jvm.MethodName)) ∈ qx_tbl := qx_t8 110 rfl rfl
set_option maxRecDepth 100000 in
theorem t_1792 : (Jvm.Cond.instanceMethod ({ cls := "ChangePlacesModel", name := "callsAt", desc := "(I)I" } : Jvm.MethodName)) ∈ qx_tbl := qx_t8 112 rfl rfl
set_option maxRecDepth 100000 in
theorem t_1793 : (Jvm.Cond.code ({ cls := "ChangePlacesModel", name := "callsAt", desc := "(I)I" } : Jvm.MethodName) prog_14_method_66_code (4 : Nat) (Option.some Jvm.ClassFile.FieldType.int)) ∈ qx_tbl := qx_t8 113 rfl rfl
set_option maxRecDepth 100000 in
theorem t_1794 : (Jvm.Cond.methodLink "ChangePlacesLaw" (61 : Nat) ({ cls := "ChangePlacesModel", name := "call", desc := "(I)I" } : Jvm.MethodName)) ∈ qx_tbl := qx_t8 114 rfl rfl
set_option maxRecDepth 100000 in
theorem t_1795 : (Jvm.Cond.instanceMethod ({ cls := "ChangePlacesModel", name := "call", desc := "(I)I" } : Jvm.MethodName)) ∈ qx_tbl := qx_t8 115 rfl rfl
set_option maxRecDepth 100000 in
theorem t_1796 : (Jvm.Cond.selects "ChangePlacesModel" ({ cls := "ChangePlacesModel", name := "call", desc := "(I)I" } : Jvm.MethodName) ({ cls := "ChangePlacesModel", name := "call", desc := "(I)I" } : Jvm.MethodName)) ∈ qx_tbl := qx_t8 116 rfl rfl
set_option maxRecDepth 100000 in
theorem t_1797 : (Jvm.Cond.code ({ cls := "ChangePlacesModel", name := "call", desc := "(I)I" } : Jvm.MethodName) prog_14_method_75_code (3 : Nat) (Option.some Jvm.ClassFile.FieldType.int)) ∈ qx_tbl := qx_t8 117 rfl rfl
set_option maxRecDepth 100000 in
theorem t_1798 : (Jvm.Cond.methodLink "ChangePlacesLaw" (65 : Nat) ({ cls := "ChangePlacesModel", name := "may", desc := "()I" } : Jvm.MethodName)) ∈ qx_tbl := qx_t8 118 rfl rfl
set_option maxRecDepth 100000 in
theorem t_1799 : (Jvm.Cond.instanceMethod ({ cls := "ChangePlacesModel", name := "may", desc := "()I" } : Jvm.MethodName)) ∈ qx_tbl := qx_t8 119 rfl rfl
set_option maxRecDepth 100000 in
theorem t_1800 : (Jvm.Cond.selects "ChangePlacesModel" ({ cls := "ChangePlacesModel", name := "may", desc := "()I" } : Jvm.MethodName) ({ cls := "ChangePlacesModel", name := "may", desc := "()I" } : Jvm.MethodName)) ∈ qx_tbl := qx_t8 120 rfl rfl
set_option maxRecDepth 100000 in
theorem t_1801 : (Jvm.Cond.code ({ cls := "ChangePlacesModel", name := "may", desc := "()I" } : Jvm.MethodName) prog_14_method_76_code (1 : Nat) (Option.some Jvm.ClassFile.FieldType.int)) ∈ qx_tbl := qx_t8 121 rfl rfl
set_option maxRecDepth 100000 in
theorem t_1802 : (Jvm.Cond.methodLink "ChangePlacesModel" (384 : Nat) ({ cls := "ChangePlacesModel", name := "takesCalled", desc := "()V" } : Jvm.MethodName)) ∈ qx_tbl := qx_t8 122 rfl rfl
set_option maxRecDepth 100000 in
theorem t_1804 : (Jvm.Cond.instanceMethod ({ cls := "ChangePlacesModel", name := "takesCalled", desc := "()V" } : Jvm.MethodName)) ∈ qx_tbl := qx_t8 124 rfl rfl
set_option maxRecDepth 100000 in
theorem t_1805 : (Jvm.Cond.code ({ cls := "ChangePlacesModel", name := "takesCalled", desc := "()V" } : Jvm.MethodName) prog_14_method_69_code (2 : Nat) (Option.none : Option Jvm.ClassFile.FieldType)) ∈ qx_tbl := qx_t8 125 rfl rfl
set_option maxRecDepth 100000 in
theorem t_1806 : (Jvm.Cond.methodLink "ChangePlacesModel" (387 : Nat) ({ cls := "ChangePlacesModel", name := "lawBroken", desc := "()I" } : Jvm.MethodName)) ∈ qx_tbl := qx_t8 126 rfl rfl
set_option maxRecDepth 100000 in
theorem t_1808 : (Jvm.Cond.instanceMethod ({ cls := "ChangePlacesModel", name := "lawBroken", desc := "()I" } : Jvm.MethodName)) ∈ qx_tbl := qx_t8 128 rfl rfl
set_option maxRecDepth 100000 in
theorem t_1809 : (Jvm.Cond.code ({ cls := "ChangePlacesModel", name := "lawBroken", desc := "()I" } : Jvm.MethodName) prog_14_method_72_code (3 : Nat) (Option.some Jvm.ClassFile.FieldType.int)) ∈ qx_tbl := qx_t8 129 rfl rfl
set_option maxRecDepth 100000 in
theorem t_1810 : (Jvm.Cond.methodLink "ChangePlacesModel" (377 : Nat) ({ cls := "ChangePlacesModel", name := "brokenBy", desc := "(III)I" } : Jvm.MethodName)) ∈ qx_tbl := qx_t8 130 rfl rfl
set_option maxRecDepth 100000 in
theorem t_1812 : (Jvm.Cond.instanceMethod ({ cls := "ChangePlacesModel", name := "brokenBy", desc := "(III)I" } : Jvm.MethodName)) ∈ qx_tbl := qx_t8 132 rfl rfl
set_option maxRecDepth 100000 in
theorem t_1813 : (Jvm.Cond.code ({ cls := "ChangePlacesModel", name := "brokenBy", desc := "(III)I" } : Jvm.MethodName) prog_14_method_68_code (7 : Nat) (Option.some Jvm.ClassFile.FieldType.int)) ∈ qx_tbl := qx_t8 133 rfl rfl
set_option maxRecDepth 100000 in
theorem t_1814 : (Jvm.Cond.methodLink "ChangePlacesLaw" (69 : Nat) ({ cls := "ChangePlacesModel", name := "go", desc := "()I" } : Jvm.MethodName)) ∈ qx_tbl := qx_t8 134 rfl rfl
set_option maxRecDepth 100000 in
theorem t_1815 : (Jvm.Cond.instanceMethod ({ cls := "ChangePlacesModel", name := "go", desc := "()I" } : Jvm.MethodName)) ∈ qx_tbl := qx_t8 135 rfl rfl
set_option maxRecDepth 100000 in
theorem t_1816 : (Jvm.Cond.selects "ChangePlacesModel" ({ cls := "ChangePlacesModel", name := "go", desc := "()I" } : Jvm.MethodName) ({ cls := "ChangePlacesModel", name := "go", desc := "()I" } : Jvm.MethodName)) ∈ qx_tbl := qx_t8 136 rfl rfl
set_option maxRecDepth 100000 in
theorem t_1817 : (Jvm.Cond.code ({ cls := "ChangePlacesModel", name := "go", desc := "()I" } : Jvm.MethodName) prog_14_method_78_code (2 : Nat) (Option.some Jvm.ClassFile.FieldType.int)) ∈ qx_tbl := qx_t8 137 rfl rfl
set_option maxRecDepth 100000 in
theorem t_1818 : (Jvm.Cond.methodLink "ChangePlacesModel" (390 : Nat) ({ cls := "ChangePlacesModel", name := "keepsRing", desc := "()V" } : Jvm.MethodName)) ∈ qx_tbl := qx_t8 138 rfl rfl
set_option maxRecDepth 100000 in
theorem t_1820 : (Jvm.Cond.instanceMethod ({ cls := "ChangePlacesModel", name := "keepsRing", desc := "()V" } : Jvm.MethodName)) ∈ qx_tbl := qx_t8 140 rfl rfl
set_option maxRecDepth 100000 in
theorem t_1821 : (Jvm.Cond.code ({ cls := "ChangePlacesModel", name := "keepsRing", desc := "()V" } : Jvm.MethodName) prog_14_method_77_code (3 : Nat) (Option.none : Option Jvm.ClassFile.FieldType)) ∈ qx_tbl := qx_t8 141 rfl rfl
set_option maxRecDepth 100000 in
theorem t_1822 : (Jvm.Cond.methodLink "ChangePlacesModel" (393 : Nat) ({ cls := "ChangePlacesModel", name := "changes", desc := "()I" } : Jvm.MethodName)) ∈ qx_tbl := qx_t8 142 rfl rfl
set_option maxRecDepth 100000 in
theorem t_1824 : (Jvm.Cond.instanceMethod ({ cls := "ChangePlacesModel", name := "changes", desc := "()I" } : Jvm.MethodName)) ∈ qx_tbl := qx_t8 144 rfl rfl
set_option maxRecDepth 100000 in
theorem t_1825 : (Jvm.Cond.code ({ cls := "ChangePlacesModel", name := "changes", desc := "()I" } : Jvm.MethodName) prog_14_method_74_code (6 : Nat) (Option.some Jvm.ClassFile.FieldType.int)) ∈ qx_tbl := qx_t8 145 rfl rfl
set_option maxRecDepth 100000 in
theorem t_1826 : (Jvm.Cond.methodLink "ChangePlacesModel" (381 : Nat) ({ cls := "ChangePlacesModel", name := "goRound", desc := "()V" } : Jvm.MethodName)) ∈ qx_tbl := qx_t8 146 rfl rfl
set_option maxRecDepth 100000 in
theorem t_1828 : (Jvm.Cond.instanceMethod ({ cls := "ChangePlacesModel", name := "goRound", desc := "()V" } : Jvm.MethodName)) ∈ qx_tbl := qx_t8 148 rfl rfl
set_option maxRecDepth 100000 in
theorem t_1829 : (Jvm.Cond.code ({ cls := "ChangePlacesModel", name := "goRound", desc := "()V" } : Jvm.MethodName) prog_14_method_73_code (3 : Nat) (Option.none : Option Jvm.ClassFile.FieldType)) ∈ qx_tbl := qx_t8 149 rfl rfl
set_option maxRecDepth 100000 in
theorem t_1830 : (Jvm.Cond.methodLink "ChangePlacesLaw" (73 : Nat) ({ cls := "ChangePlacesModel", name := "undo", desc := "()I" } : Jvm.MethodName)) ∈ qx_tbl := qx_t8 150 rfl rfl
set_option maxRecDepth 100000 in
theorem t_1831 : (Jvm.Cond.instanceMethod ({ cls := "ChangePlacesModel", name := "undo", desc := "()I" } : Jvm.MethodName)) ∈ qx_tbl := qx_t8 151 rfl rfl
set_option maxRecDepth 100000 in
theorem t_1832 : (Jvm.Cond.selects "ChangePlacesModel" ({ cls := "ChangePlacesModel", name := "undo", desc := "()I" } : Jvm.MethodName) ({ cls := "ChangePlacesModel", name := "undo", desc := "()I" } : Jvm.MethodName)) ∈ qx_tbl := qx_t8 152 rfl rfl
set_option maxRecDepth 100000 in
theorem t_1833 : (Jvm.Cond.code ({ cls := "ChangePlacesModel", name := "undo", desc := "()I" } : Jvm.MethodName) prog_14_method_79_code (3 : Nat) (Option.some Jvm.ClassFile.FieldType.int)) ∈ qx_tbl := qx_t8 153 rfl rfl
set_option maxRecDepth 100000 in
theorem t_1834 : (Jvm.Cond.methodLink "ChangePlacesLaw" (77 : Nat) ({ cls := "ChangePlacesModel", name := "owes", desc := "(II)I" } : Jvm.MethodName)) ∈ qx_tbl := qx_t8 154 rfl rfl
set_option maxRecDepth 100000 in
theorem t_1835 : (Jvm.Cond.instanceMethod ({ cls := "ChangePlacesModel", name := "owes", desc := "(II)I" } : Jvm.MethodName)) ∈ qx_tbl := qx_t8 155 rfl rfl
set_option maxRecDepth 100000 in
theorem t_1836 : (Jvm.Cond.selects "ChangePlacesModel" ({ cls := "ChangePlacesModel", name := "owes", desc := "(II)I" } : Jvm.MethodName) ({ cls := "ChangePlacesModel", name := "owes", desc := "(II)I" } : Jvm.MethodName)) ∈ qx_tbl := qx_t8 156 rfl rfl
set_option maxRecDepth 100000 in
theorem t_1837 : (Jvm.Cond.code ({ cls := "ChangePlacesModel", name := "owes", desc := "(II)I" } : Jvm.MethodName) prog_14_method_80_code (3 : Nat) (Option.some Jvm.ClassFile.FieldType.int)) ∈ qx_tbl := qx_t8 157 rfl rfl
set_option maxRecDepth 100000 in
theorem t_1838 : (Jvm.Cond.methodLink "ChangePlacesLaw" (81 : Nat) ({ cls := "ChangePlacesModel", name := "pay", desc := "(III)I" } : Jvm.MethodName)) ∈ qx_tbl := qx_t8 158 rfl rfl
set_option maxRecDepth 100000 in
theorem t_1839 : (Jvm.Cond.instanceMethod ({ cls := "ChangePlacesModel", name := "pay", desc := "(III)I" } : Jvm.MethodName)) ∈ qx_tbl := qx_t8 159 rfl rfl
set_option maxRecDepth 100000 in
theorem t_1840 : (Jvm.Cond.selects "ChangePlacesModel" ({ cls := "ChangePlacesModel", name := "pay", desc := "(III)I" } : Jvm.MethodName) ({ cls := "ChangePlacesModel", name := "pay", desc := "(III)I" } : Jvm.MethodName)) ∈ qx_tbl := qx_t8 160 rfl rfl
set_option maxRecDepth 100000 in
theorem t_1841 : (Jvm.Cond.code ({ cls := "ChangePlacesModel", name := "pay", desc := "(III)I" } : Jvm.MethodName) prog_14_method_81_code (4 : Nat) (Option.some Jvm.ClassFile.FieldType.int)) ∈ qx_tbl := qx_t8 161 rfl rfl
set_option maxRecDepth 100000 in
theorem t_1842 : (Jvm.Cond.methodLink "ChangePlacesLaw" (85 : Nat) ({ cls := "ChangePlacesModel", name := "strike", desc := "()I" } : Jvm.MethodName)) ∈ qx_tbl := qx_t8 162 rfl rfl
set_option maxRecDepth 100000 in
theorem t_1843 : (Jvm.Cond.instanceMethod ({ cls := "ChangePlacesModel", name := "strike", desc := "()I" } : Jvm.MethodName)) ∈ qx_tbl := qx_t8 163 rfl rfl
set_option maxRecDepth 100000 in
theorem t_1844 : (Jvm.Cond.selects "ChangePlacesModel" ({ cls := "ChangePlacesModel", name := "strike", desc := "()I" } : Jvm.MethodName) ({ cls := "ChangePlacesModel", name := "strike", desc := "()I" } : Jvm.MethodName)) ∈ qx_tbl := qx_t8 164 rfl rfl
set_option maxRecDepth 100000 in
theorem t_1845 : (Jvm.Cond.code ({ cls := "ChangePlacesModel", name := "strike", desc := "()I" } : Jvm.MethodName) prog_14_method_85_code (5 : Nat) (Option.some Jvm.ClassFile.FieldType.int)) ∈ qx_tbl := qx_t8 165 rfl rfl
set_option maxRecDepth 100000 in
theorem t_1846 : (Jvm.Cond.methodLink "ChangePlacesModel" (402 : Nat) ({ cls := "ChangePlacesModel", name := "isCountry", desc := "()Z" } : Jvm.MethodName)) ∈ qx_tbl := qx_t8 166 rfl rfl
set_option maxRecDepth 100000 in
theorem t_1848 : (Jvm.Cond.instanceMethod ({ cls := "ChangePlacesModel", name := "isCountry", desc := "()Z" } : Jvm.MethodName)) ∈ qx_tbl := qx_t8 168 rfl rfl
set_option maxRecDepth 100000 in
theorem t_1849 : (Jvm.Cond.code ({ cls := "ChangePlacesModel", name := "isCountry", desc := "()Z" } : Jvm.MethodName) prog_14_method_48_code (1 : Nat) (Option.some Jvm.ClassFile.FieldType.boolean)) ∈ qx_tbl := qx_t8 169 rfl rfl
set_option maxRecDepth 100000 in
theorem t_1850 : (Jvm.Cond.methodLink "ChangePlacesModel" (405 : Nat) ({ cls := "ChangePlacesModel", name := "shortestRing", desc := "()I" } : Jvm.MethodName)) ∈ qx_tbl := qx_t8 170 rfl rfl
set_option maxRecDepth 100000 in
theorem t_1852 : (Jvm.Cond.instanceMethod ({ cls := "ChangePlacesModel", name := "shortestRing", desc := "()I" } : Jvm.MethodName)) ∈ qx_tbl := qx_t8 172 rfl rfl
set_option maxRecDepth 100000 in
theorem t_1853 : (Jvm.Cond.code ({ cls := "ChangePlacesModel", name := "shortestRing", desc := "()I" } : Jvm.MethodName) prog_14_method_84_code (3 : Nat) (Option.some Jvm.ClassFile.FieldType.int)) ∈ qx_tbl := qx_t8 173 rfl rfl
set_option maxRecDepth 100000 in
theorem t_1854 : (Jvm.Cond.methodLink "ChangePlacesModel" (399 : Nat) ({ cls := "ChangePlacesModel", name := "findsRing", desc := "(II)Z" } : Jvm.MethodName)) ∈ qx_tbl := qx_t8 174 rfl rfl
set_option maxRecDepth 100000 in
theorem t_1856 : (Jvm.Cond.instanceMethod ({ cls := "ChangePlacesModel", name := "findsRing", desc := "(II)Z" } : Jvm.MethodName)) ∈ qx_tbl := qx_t8 176 rfl rfl
set_option maxRecDepth 100000 in
theorem t_1857 : (Jvm.Cond.code ({ cls := "ChangePlacesModel", name := "findsRing", desc := "(II)Z" } : Jvm.MethodName) prog_14_method_83_code (5 : Nat) (Option.some Jvm.ClassFile.FieldType.boolean)) ∈ qx_tbl := qx_t8 177 rfl rfl
set_option maxRecDepth 100000 in
theorem t_1858 : (Jvm.Cond.methodLink "ChangePlacesModel" (396 : Nat) ({ cls := "ChangePlacesModel", name := "isInRow", desc := "(II)Z" } : Jvm.MethodName)) ∈ qx_tbl := qx_t8 178 rfl rfl
set_option maxRecDepth 100000 in
theorem t_1860 : (Jvm.Cond.instanceMethod ({ cls := "ChangePlacesModel", name := "isInRow", desc := "(II)Z" } : Jvm.MethodName)) ∈ qx_tbl := qx_t8 180 rfl rfl
set_option maxRecDepth 100000 in
theorem t_1861 : (Jvm.Cond.code ({ cls := "ChangePlacesModel", name := "isInRow", desc := "(II)Z" } : Jvm.MethodName) prog_14_method_82_code (4 : Nat) (Option.some Jvm.ClassFile.FieldType.boolean)) ∈ qx_tbl := qx_t8 181 rfl rfl
set_option maxRecDepth 100000 in
theorem t_1862 : (Jvm.Cond.methodLink "ChangePlacesLaw" (89 : Nat) ({ cls := "ChangePlacesModel", name := "dawn", desc := "()I" } : Jvm.MethodName)) ∈ qx_tbl := qx_t8 182 rfl rfl
set_option maxRecDepth 100000 in
theorem t_1863 : (Jvm.Cond.instanceMethod ({ cls := "ChangePlacesModel", name := "dawn", desc := "()I" } : Jvm.MethodName)) ∈ qx_tbl := qx_t8 183 rfl rfl
set_option maxRecDepth 100000 in
theorem t_1864 : (Jvm.Cond.selects "ChangePlacesModel" ({ cls := "ChangePlacesModel", name := "dawn", desc := "()I" } : Jvm.MethodName) ({ cls := "ChangePlacesModel", name := "dawn", desc := "()I" } : Jvm.MethodName)) ∈ qx_tbl := qx_t8 184 rfl rfl
set_option maxRecDepth 100000 in
theorem t_1865 : (Jvm.Cond.code ({ cls := "ChangePlacesModel", name := "dawn", desc := "()I" } : Jvm.MethodName) prog_14_method_86_code (1 : Nat) (Option.some Jvm.ClassFile.FieldType.int)) ∈ qx_tbl := qx_t8 185 rfl rfl
set_option maxRecDepth 100000 in
theorem t_1866 : (Jvm.Cond.methodLink "ChangePlacesLaw" (93 : Nat) ({ cls := "ChangePlacesModel", name := "book", desc := "()I" } : Jvm.MethodName)) ∈ qx_tbl := qx_t8 186 rfl rfl
set_option maxRecDepth 100000 in
theorem t_1867 : (Jvm.Cond.instanceMethod ({ cls := "ChangePlacesModel", name := "book", desc := "()I" } : Jvm.MethodName)) ∈ qx_tbl := qx_t8 187 rfl rfl
set_option maxRecDepth 100000 in
theorem t_1868 : (Jvm.Cond.selects "ChangePlacesModel" ({ cls := "ChangePlacesModel", name := "book", desc := "()I" } : Jvm.MethodName) ({ cls := "ChangePlacesModel", name := "book", desc := "()I" } : Jvm.MethodName)) ∈ qx_tbl := qx_t8 188 rfl rfl
set_option maxRecDepth 100000 in
theorem t_1869 : (Jvm.Cond.code ({ cls := "ChangePlacesModel", name := "book", desc := "()I" } : Jvm.MethodName) prog_14_method_89_code (3 : Nat) (Option.some Jvm.ClassFile.FieldType.int)) ∈ qx_tbl := qx_t8 189 rfl rfl
set_option maxRecDepth 100000 in
theorem t_1870 : (Jvm.Cond.methodLink "ChangePlacesLaw" (97 : Nat) ({ cls := "ChangePlacesModel", name := "burn", desc := "()I" } : Jvm.MethodName)) ∈ qx_tbl := qx_t8 190 rfl rfl
set_option maxRecDepth 100000 in
theorem t_1871 : (Jvm.Cond.instanceMethod ({ cls := "ChangePlacesModel", name := "burn", desc := "()I" } : Jvm.MethodName)) ∈ qx_tbl := qx_t8 191 rfl rfl
set_option maxRecDepth 100000 in
theorem t_1872 : (Jvm.Cond.selects "ChangePlacesModel" ({ cls := "ChangePlacesModel", name := "burn", desc := "()I" } : Jvm.MethodName) ({ cls := "ChangePlacesModel", name := "burn", desc := "()I" } : Jvm.MethodName)) ∈ qx_tbl := qx_t8 192 rfl rfl
set_option maxRecDepth 100000 in
theorem t_1873 : (Jvm.Cond.code ({ cls := "ChangePlacesModel", name := "burn", desc := "()I" } : Jvm.MethodName) prog_14_method_90_code (2 : Nat) (Option.some Jvm.ClassFile.FieldType.int)) ∈ qx_tbl := qx_t8 193 rfl rfl
set_option maxRecDepth 100000 in
theorem t_1874 : (Jvm.Cond.methodLink "ChangePlacesLaw" (101 : Nat) ({ cls := "ChangePlacesModel", name := "judged", desc := "(I)I" } : Jvm.MethodName)) ∈ qx_tbl := qx_t8 194 rfl rfl
set_option maxRecDepth 100000 in
theorem t_1875 : (Jvm.Cond.instanceMethod ({ cls := "ChangePlacesModel", name := "judged", desc := "(I)I" } : Jvm.MethodName)) ∈ qx_tbl := qx_t8 195 rfl rfl
set_option maxRecDepth 100000 in
theorem t_1876 : (Jvm.Cond.selects "ChangePlacesModel" ({ cls := "ChangePlacesModel", name := "judged", desc := "(I)I" } : Jvm.MethodName) ({ cls := "ChangePlacesModel", name := "judged", desc := "(I)I" } : Jvm.MethodName)) ∈ qx_tbl := qx_t8 196 rfl rfl
set_option maxRecDepth 100000 in
theorem t_1877 : (Jvm.Cond.code ({ cls := "ChangePlacesModel", name := "judged", desc := "(I)I" } : Jvm.MethodName) prog_14_method_92_code (3 : Nat) (Option.some Jvm.ClassFile.FieldType.int)) ∈ qx_tbl := qx_t8 197 rfl rfl
set_option maxRecDepth 100000 in
theorem t_1878 : (Jvm.Cond.methodLink "ChangePlacesModel" (414 : Nat) ({ cls := "ChangePlacesModel", name := "keepsPlaces", desc := "()V" } : Jvm.MethodName)) ∈ qx_tbl := qx_t8 198 rfl rfl
set_option maxRecDepth 100000 in
theorem t_1880 : (Jvm.Cond.instanceMethod ({ cls := "ChangePlacesModel", name := "keepsPlaces", desc := "()V" } : Jvm.MethodName)) ∈ qx_tbl := qx_t8 200 rfl rfl
set_option maxRecDepth 100000 in
theorem t_1881 : (Jvm.Cond.code ({ cls := "ChangePlacesModel", name := "keepsPlaces", desc := "()V" } : Jvm.MethodName) prog_14_method_87_code (2 : Nat) (Option.none : Option Jvm.ClassFile.FieldType)) ∈ qx_tbl := qx_t8 201 rfl rfl
set_option maxRecDepth 100000 in
theorem t_1882 : (Jvm.Cond.methodLink "ChangePlacesModel" (417 : Nat) ({ cls := "ChangePlacesModel", name := "judges", desc := "()I" } : Jvm.MethodName)) ∈ qx_tbl := qx_t8 202 rfl rfl
set_option maxRecDepth 100000 in
theorem t_1884 : (Jvm.Cond.instanceMethod ({ cls := "ChangePlacesModel", name := "judges", desc := "()I" } : Jvm.MethodName)) ∈ qx_tbl := qx_t8 204 rfl rfl
set_option maxRecDepth 100000 in
theorem t_1885 : (Jvm.Cond.code ({ cls := "ChangePlacesModel", name := "judges", desc := "()I" } : Jvm.MethodName) prog_14_method_91_code (2 : Nat) (Option.some Jvm.ClassFile.FieldType.int)) ∈ qx_tbl := qx_t8 205 rfl rfl
set_option maxRecDepth 100000 in
theorem t_1886 : (Jvm.Cond.methodLink "ChangePlacesModel" (411 : Nat) ({ cls := "ChangePlacesModel", name := "takesBooked", desc := "(I)V" } : Jvm.MethodName)) ∈ qx_tbl := qx_t8 206 rfl rfl
set_option maxRecDepth 100000 in
theorem t_1888 : (Jvm.Cond.instanceMethod ({ cls := "ChangePlacesModel", name := "takesBooked", desc := "(I)V" } : Jvm.MethodName)) ∈ qx_tbl := qx_t8 208 rfl rfl
set_option maxRecDepth 100000 in
theorem t_1889 : (Jvm.Cond.code ({ cls := "ChangePlacesModel", name := "takesBooked", desc := "(I)V" } : Jvm.MethodName) prog_14_method_70_code (3 : Nat) (Option.none : Option Jvm.ClassFile.FieldType)) ∈ qx_tbl := qx_t8 209 rfl rfl
set_option maxRecDepth 100000 in
theorem t_1890 : (Jvm.Cond.methodLink "ChangePlacesModel" (420 : Nat) ({ cls := "ChangePlacesModel", name := "putsPlacesBack", desc := "()V" } : Jvm.MethodName)) ∈ qx_tbl := qx_t8 210 rfl rfl
set_option maxRecDepth 100000 in
theorem t_1892 : (Jvm.Cond.instanceMethod ({ cls := "ChangePlacesModel", name := "putsPlacesBack", desc := "()V" } : Jvm.MethodName)) ∈ qx_tbl := qx_t8 212 rfl rfl
set_option maxRecDepth 100000 in
theorem t_1893 : (Jvm.Cond.code ({ cls := "ChangePlacesModel", name := "putsPlacesBack", desc := "()V" } : Jvm.MethodName) prog_14_method_88_code (2 : Nat) (Option.none : Option Jvm.ClassFile.FieldType)) ∈ qx_tbl := qx_t8 213 rfl rfl
set_option maxRecDepth 100000 in
theorem t_1894 : (Jvm.Cond.methodLink "ChangePlacesLaw" (105 : Nat) ({ cls := "ChangePlacesModel", name := "then", desc := "(I)I" } : Jvm.MethodName)) ∈ qx_tbl := qx_t8 214 rfl rfl
set_option maxRecDepth 100000 in
theorem t_1895 : (Jvm.Cond.instanceMethod ({ cls := "ChangePlacesModel", name := "then", desc := "(I)I" } : Jvm.MethodName)) ∈ qx_tbl := qx_t8 215 rfl rfl
set_option maxRecDepth 100000 in
theorem t_1896 : (Jvm.Cond.selects "ChangePlacesModel" ({ cls := "ChangePlacesModel", name := "then", desc := "(I)I" } : Jvm.MethodName) ({ cls := "ChangePlacesModel", name := "then", desc := "(I)I" } : Jvm.MethodName)) ∈ qx_tbl := qx_t8 216 rfl rfl
set_option maxRecDepth 100000 in
theorem t_1897 : (Jvm.Cond.code ({ cls := "ChangePlacesModel", name := "then", desc := "(I)I" } : Jvm.MethodName) prog_14_method_93_code (3 : Nat) (Option.some Jvm.ClassFile.FieldType.int)) ∈ qx_tbl := qx_t8 217 rfl rfl
set_option maxRecDepth 100000 in
theorem t_1898 : (Jvm.Cond.methodLink "ChangePlacesLaw" (109 : Nat) ({ cls := "ChangePlacesModel", name := "laidOut", desc := "(I)I" } : Jvm.MethodName)) ∈ qx_tbl := qx_t8 218 rfl rfl
set_option maxRecDepth 100000 in
theorem t_1899 : (Jvm.Cond.instanceMethod ({ cls := "ChangePlacesModel", name := "laidOut", desc := "(I)I" } : Jvm.MethodName)) ∈ qx_tbl := qx_t8 219 rfl rfl
set_option maxRecDepth 100000 in
theorem t_1900 : (Jvm.Cond.selects "ChangePlacesModel" ({ cls := "ChangePlacesModel", name := "laidOut", desc := "(I)I" } : Jvm.MethodName) ({ cls := "ChangePlacesModel", name := "laidOut", desc := "(I)I" } : Jvm.MethodName)) ∈ qx_tbl := qx_t8 220 rfl rfl
set_option maxRecDepth 100000 in
theorem t_1901 : (Jvm.Cond.code ({ cls := "ChangePlacesModel", name := "laidOut", desc := "(I)I" } : Jvm.MethodName) prog_14_method_95_code (5 : Nat) (Option.some Jvm.ClassFile.FieldType.int)) ∈ qx_tbl := qx_t8 221 rfl rfl
set_option maxRecDepth 100000 in
theorem t_1902 : (Jvm.Cond.methodLink "ChangePlacesModel" (423 : Nat) ({ cls := "ChangePlacesModel", name := "peopleIn", desc := "(I)I" } : Jvm.MethodName)) ∈ qx_tbl := qx_t8 222 rfl rfl
set_option maxRecDepth 100000 in
theorem t_1904 : (Jvm.Cond.instanceMethod ({ cls := "ChangePlacesModel", name := "peopleIn", desc := "(I)I" } : Jvm.MethodName)) ∈ qx_tbl := qx_t8 224 rfl rfl
set_option maxRecDepth 100000 in
theorem t_1905 : (Jvm.Cond.code ({ cls := "ChangePlacesModel", name := "peopleIn", desc := "(I)I" } : Jvm.MethodName) prog_14_method_94_code (4 : Nat) (Option.some Jvm.ClassFile.FieldType.int)) ∈ qx_tbl := qx_t8 225 rfl rfl
set_option maxRecDepth 100000 in
theorem t_1906 : (Jvm.Cond.methodLink "ChangePlacesLaw" (113 : Nat) ({ cls := "ChangePlacesModel", name := "changers", desc := "(II)I" } : Jvm.MethodName)) ∈ qx_tbl := qx_t8 226 rfl rfl
set_option maxRecDepth 100000 in
theorem t_1907 : (Jvm.Cond.instanceMethod ({ cls := "ChangePlacesModel", name := "changers", desc := "(II)I" } : Jvm.MethodName)) ∈ qx_tbl := qx_t8 227 rfl rfl
set_option maxRecDepth 100000 in
theorem t_1908 : (Jvm.Cond.selects "ChangePlacesModel" ({ cls := "ChangePlacesModel", name := "changers", desc := "(II)I" } : Jvm.MethodName) ({ cls := "ChangePlacesModel", name := "changers", desc := "(II)I" } : Jvm.MethodName)) ∈ qx_tbl := qx_t8 228 rfl rfl
set_option maxRecDepth 100000 in
theorem t_1909 : (Jvm.Cond.code ({ cls := "ChangePlacesModel", name := "changers", desc := "(II)I" } : Jvm.MethodName) prog_14_method_97_code (6 : Nat) (Option.some Jvm.ClassFile.FieldType.int)) ∈ qx_tbl := qx_t8 229 rfl rfl
set_option maxRecDepth 100000 in
theorem t_1910 : (Jvm.Cond.constantLong "ChangePlacesModel" (429 : Nat) (2 : Int64)) ∈ qx_tbl := qx_t8 230 rfl rfl
set_option maxRecDepth 100000 in
theorem t_1911 : (Jvm.Cond.methodLink "ChangePlacesModel" (431 : Nat) ({ cls := "ChangePlacesModel", name := "canChange", desc := "(II)Z" } : Jvm.MethodName)) ∈ qx_tbl := qx_t8 231 rfl rfl
set_option maxRecDepth 100000 in
theorem t_1913 : (Jvm.Cond.instanceMethod ({ cls := "ChangePlacesModel", name := "canChange", desc := "(II)Z" } : Jvm.MethodName)) ∈ qx_tbl := qx_t8 233 rfl rfl
set_option maxRecDepth 100000 in
theorem t_1914 : (Jvm.Cond.code ({ cls := "ChangePlacesModel", name := "canChange", desc := "(II)Z" } : Jvm.MethodName) prog_14_method_96_code (3 : Nat) (Option.some Jvm.ClassFile.FieldType.boolean)) ∈ qx_tbl := qx_t8 234 rfl rfl
set_option maxRecDepth 100000 in
theorem t_1915 : (Jvm.Cond.methodLink "ChangePlacesModel" (426 : Nat) ({ cls := "ChangePlacesModel", name := "takesTwo", desc := "(II)V" } : Jvm.MethodName)) ∈ qx_tbl := qx_t8 235 rfl rfl
set_option maxRecDepth 100000 in
theorem t_1917 : (Jvm.Cond.instanceMethod ({ cls := "ChangePlacesModel", name := "takesTwo", desc := "(II)V" } : Jvm.MethodName)) ∈ qx_tbl := qx_t8 237 rfl rfl
set_option maxRecDepth 100000 in
theorem t_1918 : (Jvm.Cond.code ({ cls := "ChangePlacesModel", name := "takesTwo", desc := "(II)V" } : Jvm.MethodName) prog_14_method_71_code (3 : Nat) (Option.none : Option Jvm.ClassFile.FieldType)) ∈ qx_tbl := qx_t8 238 rfl rfl
set_option maxRecDepth 100000 in
theorem t_1919 : (Jvm.Cond.methodLink "ChangePlacesLaw" (117 : Nat) ({ cls := "ChangePlacesModel", name := "most", desc := "(II)I" } : Jvm.MethodName)) ∈ qx_tbl := qx_t8 239 rfl rfl
set_option maxRecDepth 100000 in
theorem t_1920 : (Jvm.Cond.instanceMethod ({ cls := "ChangePlacesModel", name := "most", desc := "(II)I" } : Jvm.MethodName)) ∈ qx_tbl := qx_t9 0 rfl rfl
set_option maxRecDepth 100000 in
theorem t_1921 : (Jvm.Cond.selects "ChangePlacesModel" ({ cls := "ChangePlacesModel", name := "most", desc := "(II)I" } : Jvm.MethodName) ({ cls := "ChangePlacesModel", name := "most", desc := "(II)I" } : Jvm.MethodName)) ∈ qx_tbl := qx_t9 1 rfl rfl
set_option maxRecDepth 100000 in
theorem t_1922 : (Jvm.Cond.code ({ cls := "ChangePlacesModel", name := "most", desc := "(II)I" } : Jvm.MethodName) prog_14_method_106_code (4 : Nat) (Option.some Jvm.ClassFile.FieldType.int)) ∈ qx_tbl := qx_t9 2 rfl rfl
set_option maxRecDepth 100000 in
theorem t_1923 : (Jvm.Cond.constantLong "ChangePlacesModel" (466 : Nat) (4 : Int64)) ∈ qx_tbl := qx_t9 3 rfl rfl
set_option maxRecDepth 100000 in
theorem t_1924 : (Jvm.Cond.methodLink "ChangePlacesModel" (468 : Nat) ({ cls := "ChangePlacesModel", name := "findsMost", desc := "(I)V" } : Jvm.MethodName)) ∈ qx_tbl := qx_t9 4 rfl rfl
set_option maxRecDepth 100000 in
theorem t_1926 : (Jvm.Cond.instanceMethod ({ cls := "ChangePlacesModel", name := "findsMost", desc := "(I)V" } : Jvm.MethodName)) ∈ qx_tbl := qx_t9 6 rfl rfl
set_option maxRecDepth 100000 in
theorem t_1927 : (Jvm.Cond.code ({ cls := "ChangePlacesModel", name := "findsMost", desc := "(I)V" } : Jvm.MethodName) prog_14_method_104_code (4 : Nat) (Option.none : Option Jvm.ClassFile.FieldType)) ∈ qx_tbl := qx_t9 7 rfl rfl
set_option maxRecDepth 100000 in
theorem t_1928 : (Jvm.Cond.methodLink "ChangePlacesModel" (456 : Nat) ({ cls := "ChangePlacesModel", name := "marks", desc := "(I)V" } : Jvm.MethodName)) ∈ qx_tbl := qx_t9 8 rfl rfl
set_option maxRecDepth 100000 in
theorem t_1930 : (Jvm.Cond.instanceMethod ({ cls := "ChangePlacesModel", name := "marks", desc := "(I)V" } : Jvm.MethodName)) ∈ qx_tbl := qx_t9 10 rfl rfl
set_option maxRecDepth 100000 in
theorem t_1931 : (Jvm.Cond.code ({ cls := "ChangePlacesModel", name := "marks", desc := "(I)V" } : Jvm.MethodName) prog_14_method_98_code (5 : Nat) (Option.none : Option Jvm.ClassFile.FieldType)) ∈ qx_tbl := qx_t9 11 rfl rfl
set_option maxRecDepth 100000 in
theorem t_1932 : (Jvm.Cond.methodLink "ChangePlacesModel" (459 : Nat) ({ cls := "ChangePlacesModel", name := "leastOf", desc := "(I)I" } : Jvm.MethodName)) ∈ qx_tbl := qx_t9 12 rfl rfl
set_option maxRecDepth 100000 in
theorem t_1934 : (Jvm.Cond.instanceMethod ({ cls := "ChangePlacesModel", name := "leastOf", desc := "(I)I" } : Jvm.MethodName)) ∈ qx_tbl := qx_t9 14 rfl rfl
set_option maxRecDepth 100000 in
theorem t_1935 : (Jvm.Cond.code ({ cls := "ChangePlacesModel", name := "leastOf", desc := "(I)I" } : Jvm.MethodName) prog_14_method_103_code (3 : Nat) (Option.some Jvm.ClassFile.FieldType.int)) ∈ qx_tbl := qx_t9 15 rfl rfl
set_option maxRecDepth 100000 in
theorem t_1936 : (Jvm.Cond.methodLink "ChangePlacesModel" (443 : Nat) ({ cls := "ChangePlacesModel", name := "isOf", desc := "(II)Z" } : Jvm.MethodName)) ∈ qx_tbl := qx_t9 16 rfl rfl
set_option maxRecDepth 100000 in
theorem t_1937 : (Jvm.Cond.static ({ cls := "ChangePlacesModel", name := "isOf", desc := "(II)Z" } : Jvm.MethodName)) ∈ qx_tbl := qx_t9 17 rfl rfl
set_option maxRecDepth 100000 in
theorem t_1938 : (Jvm.Cond.code ({ cls := "ChangePlacesModel", name := "isOf", desc := "(II)Z" } : Jvm.MethodName) prog_14_method_3_code (2 : Nat) (Option.some Jvm.ClassFile.FieldType.boolean)) ∈ qx_tbl := qx_t9 18 rfl rfl
set_option maxRecDepth 100000 in
theorem t_1939 : (Jvm.Cond.methodLink "ChangePlacesModel" (462 : Nat) ({ cls := "ChangePlacesModel", name := "offersFrom", desc := "(III)V" } : Jvm.MethodName)) ∈ qx_tbl := qx_t9 19 rfl rfl
set_option maxRecDepth 100000 in
theorem t_1941 : (Jvm.Cond.instanceMethod ({ cls := "ChangePlacesModel", name := "offersFrom", desc := "(III)V" } : Jvm.MethodName)) ∈ qx_tbl := qx_t9 21 rfl rfl
set_option maxRecDepth 100000 in
theorem t_1942 : (Jvm.Cond.code ({ cls := "ChangePlacesModel", name := "offersFrom", desc := "(III)V" } : Jvm.MethodName) prog_14_method_102_code (6 : Nat) (Option.none : Option Jvm.ClassFile.FieldType)) ∈ qx_tbl := qx_t9 22 rfl rfl
set_option maxRecDepth 100000 in
theorem t_1943 : (Jvm.Cond.methodLink "ChangePlacesModel" (446 : Nat) ({ cls := "ChangePlacesModel", name := "takes", desc := "(III)Z" } : Jvm.MethodName)) ∈ qx_tbl := qx_t9 23 rfl rfl
set_option maxRecDepth 100000 in
theorem t_1945 : (Jvm.Cond.instanceMethod ({ cls := "ChangePlacesModel", name := "takes", desc := "(III)Z" } : Jvm.MethodName)) ∈ qx_tbl := qx_t9 25 rfl rfl
set_option maxRecDepth 100000 in
theorem t_1946 : (Jvm.Cond.code ({ cls := "ChangePlacesModel", name := "takes", desc := "(III)Z" } : Jvm.MethodName) prog_14_method_99_code (4 : Nat) (Option.some Jvm.ClassFile.FieldType.boolean)) ∈ qx_tbl := qx_t9 26 rfl rfl
set_option maxRecDepth 100000 in
theorem t_1947 : (Jvm.Cond.methodLink "ChangePlacesModel" (449 : Nat) ({ cls := "ChangePlacesModel", name := "offers", desc := "(IIIII)V" } : Jvm.MethodName)) ∈ qx_tbl := qx_t9 27 rfl rfl
set_option maxRecDepth 100000 in
theorem t_1949 : (Jvm.Cond.instanceMethod ({ cls := "ChangePlacesModel", name := "offers", desc := "(IIIII)V" } : Jvm.MethodName)) ∈ qx_tbl := qx_t9 29 rfl rfl
set_option maxRecDepth 100000 in
theorem t_1950 : (Jvm.Cond.code ({ cls := "ChangePlacesModel", name := "offers", desc := "(IIIII)V" } : Jvm.MethodName) prog_14_method_100_code (9 : Nat) (Option.none : Option Jvm.ClassFile.FieldType)) ∈ qx_tbl := qx_t9 30 rfl rfl
set_option maxRecDepth 100000 in
theorem t_1951 : (Jvm.Cond.methodLink "ChangePlacesModel" (453 : Nat) ({ cls := "ChangePlacesModel", name := "offersFour", desc := "(IIII)V" } : Jvm.MethodName)) ∈ qx_tbl := qx_t9 31 rfl rfl
set_option maxRecDepth 100000 in
theorem t_1953 : (Jvm.Cond.instanceMethod ({ cls := "ChangePlacesModel", name := "offersFour", desc := "(IIII)V" } : Jvm.MethodName)) ∈ qx_tbl := qx_t9 33 rfl rfl
set_option maxRecDepth 100000 in
theorem t_1954 : (Jvm.Cond.code ({ cls := "ChangePlacesModel", name := "offersFour", desc := "(IIII)V" } : Jvm.MethodName) prog_14_method_101_code (6 : Nat) (Option.none : Option Jvm.ClassFile.FieldType)) ∈ qx_tbl := qx_t9 34 rfl rfl
set_option maxRecDepth 100000 in
theorem t_1955 : (Jvm.Cond.methodLink "ChangePlacesLaw" (121 : Nat) ({ cls := "ChangePlacesModel", name := "mostOf", desc := "(II)I" } : Jvm.MethodName)) ∈ qx_tbl := qx_t9 35 rfl rfl
set_option maxRecDepth 100000 in
theorem t_1956 : (Jvm.Cond.instanceMethod ({ cls := "ChangePlacesModel", name := "mostOf", desc := "(II)I" } : Jvm.MethodName)) ∈ qx_tbl := qx_t9 36 rfl rfl
set_option maxRecDepth 100000 in
theorem t_1957 : (Jvm.Cond.selects "ChangePlacesModel" ({ cls := "ChangePlacesModel", name := "mostOf", desc := "(II)I" } : Jvm.MethodName) ({ cls := "ChangePlacesModel", name := "mostOf", desc := "(II)I" } : Jvm.MethodName)) ∈ qx_tbl := qx_t9 37 rfl rfl
set_option maxRecDepth 100000 in
theorem t_1958 : (Jvm.Cond.code ({ cls := "ChangePlacesModel", name := "mostOf", desc := "(II)I" } : Jvm.MethodName) prog_14_method_107_code (3 : Nat) (Option.some Jvm.ClassFile.FieldType.int)) ∈ qx_tbl := qx_t9 38 rfl rfl
set_option maxRecDepth 100000 in
theorem t_1959 : (Jvm.Cond.methodLink "ChangePlacesModel" (471 : Nat) ({ cls := "ChangePlacesModel", name := "followsMost", desc := "()V" } : Jvm.MethodName)) ∈ qx_tbl := qx_t9 39 rfl rfl
set_option maxRecDepth 100000 in
theorem t_1961 : (Jvm.Cond.instanceMethod ({ cls := "ChangePlacesModel", name := "followsMost", desc := "()V" } : Jvm.MethodName)) ∈ qx_tbl := qx_t9 41 rfl rfl
set_option maxRecDepth 100000 in
theorem t_1962 : (Jvm.Cond.code ({ cls := "ChangePlacesModel", name := "followsMost", desc := "()V" } : Jvm.MethodName) prog_14_method_105_code (8 : Nat) (Option.none : Option Jvm.ClassFile.FieldType)) ∈ qx_tbl := qx_t9 42 rfl rfl
set_option maxRecDepth 100000 in
theorem t_1963 : (Jvm.Cond.methodLink "ChangePlacesLaw" (125 : Nat) ({ cls := "ChangePlacesModel", name := "core", desc := "(I)I" } : Jvm.MethodName)) ∈ qx_tbl := qx_t9 43 rfl rfl
set_option maxRecDepth 100000 in
theorem t_1964 : (Jvm.Cond.instanceMethod ({ cls := "ChangePlacesModel", name := "core", desc := "(I)I" } : Jvm.MethodName)) ∈ qx_tbl := qx_t9 44 rfl rfl
set_option maxRecDepth 100000 in
theorem t_1965 : (Jvm.Cond.selects "ChangePlacesModel" ({ cls := "ChangePlacesModel", name := "core", desc := "(I)I" } : Jvm.MethodName) ({ cls := "ChangePlacesModel", name := "core", desc := "(I)I" } : Jvm.MethodName)) ∈ qx_tbl := qx_t9 45 rfl rfl
set_option maxRecDepth 100000 in
theorem t_1966 : (Jvm.Cond.code ({ cls := "ChangePlacesModel", name := "core", desc := "(I)I" } : Jvm.MethodName) prog_14_method_111_code (2 : Nat) (Option.some Jvm.ClassFile.FieldType.int)) ∈ qx_tbl := qx_t9 46 rfl rfl
set_option maxRecDepth 100000 in
theorem t_1967 : (Jvm.Cond.methodLink "ChangePlacesModel" (480 : Nat) ({ cls := "ChangePlacesModel", name := "findsCore", desc := "()V" } : Jvm.MethodName)) ∈ qx_tbl := qx_t9 47 rfl rfl
set_option maxRecDepth 100000 in
theorem t_1969 : (Jvm.Cond.instanceMethod ({ cls := "ChangePlacesModel", name := "findsCore", desc := "()V" } : Jvm.MethodName)) ∈ qx_tbl := qx_t9 49 rfl rfl
set_option maxRecDepth 100000 in
theorem t_1970 : (Jvm.Cond.code ({ cls := "ChangePlacesModel", name := "findsCore", desc := "()V" } : Jvm.MethodName) prog_14_method_110_code (4 : Nat) (Option.none : Option Jvm.ClassFile.FieldType)) ∈ qx_tbl := qx_t9 50 rfl rfl
set_option maxRecDepth 100000 in
theorem t_1971 : (Jvm.Cond.methodLink "ChangePlacesModel" (474 : Nat) ({ cls := "ChangePlacesModel", name := "pointsAt", desc := "(II)I" } : Jvm.MethodName)) ∈ qx_tbl := qx_t9 51 rfl rfl
set_option maxRecDepth 100000 in
theorem t_1973 : (Jvm.Cond.instanceMethod ({ cls := "ChangePlacesModel", name := "pointsAt", desc := "(II)I" } : Jvm.MethodName)) ∈ qx_tbl := qx_t9 53 rfl rfl
set_option maxRecDepth 100000 in
theorem t_1974 : (Jvm.Cond.code ({ cls := "ChangePlacesModel", name := "pointsAt", desc := "(II)I" } : Jvm.MethodName) prog_14_method_108_code (8 : Nat) (Option.some Jvm.ClassFile.FieldType.int)) ∈ qx_tbl := qx_t9 54 rfl rfl
set_option maxRecDepth 100000 in
theorem t_1975 : (Jvm.Cond.methodLink "ChangePlacesModel" (477 : Nat) ({ cls := "ChangePlacesModel", name := "comesBack", desc := "(I)Z" } : Jvm.MethodName)) ∈ qx_tbl := qx_t9 55 rfl rfl
set_option maxRecDepth 100000 in
theorem t_1977 : (Jvm.Cond.instanceMethod ({ cls := "ChangePlacesModel", name := "comesBack", desc := "(I)Z" } : Jvm.MethodName)) ∈ qx_tbl := qx_t9 57 rfl rfl
set_option maxRecDepth 100000 in
theorem t_1978 : (Jvm.Cond.code ({ cls := "ChangePlacesModel", name := "comesBack", desc := "(I)Z" } : Jvm.MethodName) prog_14_method_109_code (4 : Nat) (Option.some Jvm.ClassFile.FieldType.boolean)) ∈ qx_tbl := qx_t9 58 rfl rfl
set_option maxRecDepth 100000 in
theorem t_1979 : (Jvm.Cond.methodLink "ChangePlacesLaw" (129 : Nat) ({ cls := "ChangePlacesModel", name := "blocks", desc := "(I)I" } : Jvm.MethodName)) ∈ qx_tbl := qx_t9 59 rfl rfl
set_option maxRecDepth 100000 in
theorem t_1980 : (Jvm.Cond.instanceMethod ({ cls := "ChangePlacesModel", name := "blocks", desc := "(I)I" } : Jvm.MethodName)) ∈ qx_tbl := qx_t9 60 rfl rfl
set_option maxRecDepth 100000 in
theorem t_1981 : (Jvm.Cond.selects "ChangePlacesModel" ({ cls := "ChangePlacesModel", name := "blocks", desc := "(I)I" } : Jvm.MethodName) ({ cls := "ChangePlacesModel", name := "blocks", desc := "(I)I" } : Jvm.MethodName)) ∈ qx_tbl := qx_t9 61 rfl rfl
set_option maxRecDepth 100000 in
theorem t_1982 : (Jvm.Cond.code ({ cls := "ChangePlacesModel", name := "blocks", desc := "(I)I" } : Jvm.MethodName) prog_14_method_113_code (5 : Nat) (Option.some Jvm.ClassFile.FieldType.int)) ∈ qx_tbl := qx_t9 62 rfl rfl
set_option maxRecDepth 100000 in
theorem t_1983 : (Jvm.Cond.methodLink "ChangePlacesModel" (483 : Nat) ({ cls := "ChangePlacesModel", name := "comesTo", desc := "(I)I" } : Jvm.MethodName)) ∈ qx_tbl := qx_t9 63 rfl rfl
set_option maxRecDepth 100000 in
theorem t_1985 : (Jvm.Cond.instanceMethod ({ cls := "ChangePlacesModel", name := "comesTo", desc := "(I)I" } : Jvm.MethodName)) ∈ qx_tbl := qx_t9 65 rfl rfl
set_option maxRecDepth 100000 in
theorem t_1986 : (Jvm.Cond.code ({ cls := "ChangePlacesModel", name := "comesTo", desc := "(I)I" } : Jvm.MethodName) prog_14_method_112_code (2 : Nat) (Option.some Jvm.ClassFile.FieldType.int)) ∈ qx_tbl := qx_t9 66 rfl rfl
set_option maxRecDepth 100000 in
theorem t_1987 : (Jvm.Cond.methodLink "ChangePlacesLaw" (133 : Nat) ({ cls := "ChangePlacesModel", name := "journey", desc := "(II)I" } : Jvm.MethodName)) ∈ qx_tbl := qx_t9 67 rfl rfl
set_option maxRecDepth 100000 in
theorem t_1988 : (Jvm.Cond.instanceMethod ({ cls := "ChangePlacesModel", name := "journey", desc := "(II)I" } : Jvm.MethodName)) ∈ qx_tbl := qx_t9 68 rfl rfl
set_option maxRecDepth 100000 in
theorem t_1989 : (Jvm.Cond.selects "ChangePlacesModel" ({ cls := "ChangePlacesModel", name := "journey", desc := "(II)I" } : Jvm.MethodName) ({ cls := "ChangePlacesModel", name := "journey", desc := "(II)I" } : Jvm.MethodName)) ∈ qx_tbl := qx_t9 69 rfl rfl
set_option maxRecDepth 100000 in
theorem t_1990 : (Jvm.Cond.code ({ cls := "ChangePlacesModel", name := "journey", desc := "(II)I" } : Jvm.MethodName) prog_14_method_121_code (4 : Nat) (Option.some Jvm.ClassFile.FieldType.int)) ∈ qx_tbl := qx_t9 70 rfl rfl
set_option maxRecDepth 100000 in
theorem t_1991 : (Jvm.Cond.methodLink "ChangePlacesModel" (507 : Nat) ({ cls := "ChangePlacesModel", name := "searched", desc := "(II)I" } : Jvm.MethodName)) ∈ qx_tbl := qx_t9 71 rfl rfl
set_option maxRecDepth 100000 in
theorem t_1993 : (Jvm.Cond.instanceMethod ({ cls := "ChangePlacesModel", name := "searched", desc := "(II)I" } : Jvm.MethodName)) ∈ qx_tbl := qx_t9 73 rfl rfl
set_option maxRecDepth 100000 in
theorem t_1994 : (Jvm.Cond.code ({ cls := "ChangePlacesModel", name := "searched", desc := "(II)I" } : Jvm.MethodName) prog_14_method_120_code (4 : Nat) (Option.some Jvm.ClassFile.FieldType.int)) ∈ qx_tbl := qx_t9 74 rfl rfl
set_option maxRecDepth 100000 in
theorem t_1995 : (Jvm.Cond.methodLink "ChangePlacesModel" (504 : Nat) ({ cls := "ChangePlacesModel", name := "searches", desc := "(II)I" } : Jvm.MethodName)) ∈ qx_tbl := qx_t9 75 rfl rfl
set_option maxRecDepth 100000 in
theorem t_1997 : (Jvm.Cond.instanceMethod ({ cls := "ChangePlacesModel", name := "searches", desc := "(II)I" } : Jvm.MethodName)) ∈ qx_tbl := qx_t9 77 rfl rfl
set_option maxRecDepth 100000 in
theorem t_1998 : (Jvm.Cond.code ({ cls := "ChangePlacesModel", name := "searches", desc := "(II)I" } : Jvm.MethodName) prog_14_method_119_code (8 : Nat) (Option.some Jvm.ClassFile.FieldType.int)) ∈ qx_tbl := qx_t9 78 rfl rfl
set_option maxRecDepth 100000 in
theorem t_1999 : (Jvm.Cond.methodLink "ChangePlacesModel" (498 : Nat) ({ cls := "ChangePlacesModel", name := "begins", desc := "()V" } : Jvm.MethodName)) ∈ qx_tbl := qx_t9 79 rfl rfl
set_option maxRecDepth 100000 in
theorem t_2001 : (Jvm.Cond.instanceMethod ({ cls := "ChangePlacesModel", name := "begins", desc := "()V" } : Jvm.MethodName)) ∈ qx_tbl := qx_t9 81 rfl rfl
set_option maxRecDepth 100000 in
theorem t_2002 : (Jvm.Cond.code ({ cls := "ChangePlacesModel", name := "begins", desc := "()V" } : Jvm.MethodName) prog_14_method_117_code (2 : Nat) (Option.none : Option Jvm.ClassFile.FieldType)) ∈ qx_tbl := qx_t9 82 rfl rfl
set_option maxRecDepth 100000 in
theorem t_2003 : (Jvm.Cond.methodLink "ChangePlacesModel" (489 : Nat) ({ cls := "ChangePlacesModel", name := "whereAll", desc := "()I" } : Jvm.MethodName)) ∈ qx_tbl := qx_t9 83 rfl rfl
set_option maxRecDepth 100000 in
theorem t_2005 : (Jvm.Cond.instanceMethod ({ cls := "ChangePlacesModel", name := "whereAll", desc := "()I" } : Jvm.MethodName)) ∈ qx_tbl := qx_t9 85 rfl rfl
set_option maxRecDepth 100000 in
theorem t_2006 : (Jvm.Cond.code ({ cls := "ChangePlacesModel", name := "whereAll", desc := "()I" } : Jvm.MethodName) prog_14_method_114_code (3 : Nat) (Option.some Jvm.ClassFile.FieldType.int)) ∈ qx_tbl := qx_t9 86 rfl rfl
set_option maxRecDepth 100000 in
theorem t_2007 : (Jvm.Cond.methodLink "ChangePlacesModel" (492 : Nat) ({ cls := "ChangePlacesModel", name := "comes", desc := "(III)V" } : Jvm.MethodName)) ∈ qx_tbl := qx_t9 87 rfl rfl
set_option maxRecDepth 100000 in
theorem t_2009 : (Jvm.Cond.instanceMethod ({ cls := "ChangePlacesModel", name := "comes", desc := "(III)V" } : Jvm.MethodName)) ∈ qx_tbl := qx_t9 89 rfl rfl
set_option maxRecDepth 100000 in
theorem t_2010 : (Jvm.Cond.code ({ cls := "ChangePlacesModel", name := "comes", desc := "(III)V" } : Jvm.MethodName) prog_14_method_118_code (4 : Nat) (Option.none : Option Jvm.ClassFile.FieldType)) ∈ qx_tbl := qx_t9 90 rfl rfl
set_option maxRecDepth 100000 in
theorem t_2011 : (Jvm.Cond.methodLink "ChangePlacesModel" (495 : Nat) ({ cls := "ChangePlacesModel", name := "slotOf", desc := "(I)I" } : Jvm.MethodName)) ∈ qx_tbl := qx_t9 91 rfl rfl
set_option maxRecDepth 100000 in
theorem t_2013 : (Jvm.Cond.instanceMethod ({ cls := "ChangePlacesModel", name := "slotOf", desc := "(I)I" } : Jvm.MethodName)) ∈ qx_tbl := qx_t9 93 rfl rfl
set_option maxRecDepth 100000 in
theorem t_2014 : (Jvm.Cond.code ({ cls := "ChangePlacesModel", name := "slotOf", desc := "(I)I" } : Jvm.MethodName) prog_14_method_116_code (3 : Nat) (Option.some Jvm.ClassFile.FieldType.int)) ∈ qx_tbl := qx_t9 94 rfl rfl
set_option maxRecDepth 100000 in
theorem t_2015 : (Jvm.Cond.methodLink "ChangePlacesModel" (501 : Nat) ({ cls := "ChangePlacesModel", name := "stands", desc := "(I)V" } : Jvm.MethodName)) ∈ qx_tbl := qx_t9 95 rfl rfl
set_option maxRecDepth 100000 in
theorem t_2017 : (Jvm.Cond.instanceMethod ({ cls := "ChangePlacesModel", name := "stands", desc := "(I)V" } : Jvm.MethodName)) ∈ qx_tbl := qx_t9 97 rfl rfl
set_option maxRecDepth 100000 in
theorem t_2018 : (Jvm.Cond.code ({ cls := "ChangePlacesModel", name := "stands", desc := "(I)V" } : Jvm.MethodName) prog_14_method_115_code (4 : Nat) (Option.none : Option Jvm.ClassFile.FieldType)) ∈ qx_tbl := qx_t9 98 rfl rfl
set_option maxRecDepth 100000 in
theorem t_2019 : (Jvm.Cond.methodLink "ChangePlacesLaw" (138 : Nat) ({ cls := "ChangePlacesModel", name := "row", desc := "(IIII)I" } : Jvm.MethodName)) ∈ qx_tbl := qx_t9 99 rfl rfl
set_option maxRecDepth 100000 in
theorem t_2020 : (Jvm.Cond.instanceMethod ({ cls := "ChangePlacesModel", name := "row", desc := "(IIII)I" } : Jvm.MethodName)) ∈ qx_tbl := qx_t9 100 rfl rfl
set_option maxRecDepth 100000 in
theorem t_2021 : (Jvm.Cond.selects "ChangePlacesModel" ({ cls := "ChangePlacesModel", name := "row", desc := "(IIII)I" } : Jvm.MethodName) ({ cls := "ChangePlacesModel", name := "row", desc := "(IIII)I" } : Jvm.MethodName)) ∈ qx_tbl := qx_t9 101 rfl rfl
set_option maxRecDepth 100000 in
theorem t_2022 : (Jvm.Cond.code ({ cls := "ChangePlacesModel", name := "row", desc := "(IIII)I" } : Jvm.MethodName) prog_14_method_122_code (6 : Nat) (Option.some Jvm.ClassFile.FieldType.int)) ∈ qx_tbl := qx_t9 102 rfl rfl
set_option maxRecDepth 100000 in
theorem t_2023 : (Jvm.Cond.methodLink "ChangePlacesLaw" (142 : Nat) ({ cls := "ChangePlacesModel", name := "reached", desc := "(I)I" } : Jvm.MethodName)) ∈ qx_tbl := qx_t9 103 rfl rfl
set_option maxRecDepth 100000 in
theorem t_2024 : (Jvm.Cond.instanceMethod ({ cls := "ChangePlacesModel", name := "reached", desc := "(I)I" } : Jvm.MethodName)) ∈ qx_tbl := qx_t9 104 rfl rfl
set_option maxRecDepth 100000 in
theorem t_2025 : (Jvm.Cond.selects "ChangePlacesModel" ({ cls := "ChangePlacesModel", name := "reached", desc := "(I)I" } : Jvm.MethodName) ({ cls := "ChangePlacesModel", name := "reached", desc := "(I)I" } : Jvm.MethodName)) ∈ qx_tbl := qx_t9 105 rfl rfl
set_option maxRecDepth 100000 in
theorem t_2026 : (Jvm.Cond.code ({ cls := "ChangePlacesModel", name := "reached", desc := "(I)I" } : Jvm.MethodName) prog_14_method_123_code (5 : Nat) (Option.some Jvm.ClassFile.FieldType.int)) ∈ qx_tbl := qx_t9 106 rfl rfl
set_option maxRecDepth 100000 in
theorem t_2027 : (Jvm.Cond.methodLink "ChangePlacesLaw" (147 : Nat) ({ cls := "ChangePlacesModel", name := "found", desc := "(II)Z" } : Jvm.MethodName)) ∈ qx_tbl := qx_t9 107 rfl rfl
set_option maxRecDepth 100000 in
theorem t_2028 : (Jvm.Cond.instanceMethod ({ cls := "ChangePlacesModel", name := "found", desc := "(II)Z" } : Jvm.MethodName)) ∈ qx_tbl := qx_t9 108 rfl rfl
set_option maxRecDepth 100000 in
theorem t_2029 : (Jvm.Cond.selects "ChangePlacesModel" ({ cls := "ChangePlacesModel", name := "found", desc := "(II)Z" } : Jvm.MethodName) ({ cls := "ChangePlacesModel", name := "found", desc := "(II)Z" } : Jvm.MethodName)) ∈ qx_tbl := qx_t9 109 rfl rfl
set_option maxRecDepth 100000 in
theorem t_2030 : (Jvm.Cond.code ({ cls := "ChangePlacesModel", name := "found", desc := "(II)Z" } : Jvm.MethodName) prog_14_method_124_code (3 : Nat) (Option.some Jvm.ClassFile.FieldType.boolean)) ∈ qx_tbl := qx_t9 110 rfl rfl
set_option maxRecDepth 100000 in
theorem t_2031 : (Jvm.Cond.methodLink "ChangePlacesLaw" (151 : Nat) ({ cls := "ChangePlacesModel", name := "done", desc := "(I)I" } : Jvm.MethodName)) ∈ qx_tbl := qx_t9 111 rfl rfl
set_option maxRecDepth 100000 in
theorem t_2032 : (Jvm.Cond.instanceMethod ({ cls := "ChangePlacesModel", name := "done", desc := "(I)I" } : Jvm.MethodName)) ∈ qx_tbl := qx_t9 112 rfl rfl
set_option maxRecDepth 100000 in
theorem t_2033 : (Jvm.Cond.selects "ChangePlacesModel" ({ cls := "ChangePlacesModel", name := "done", desc := "(I)I" } : Jvm.MethodName) ({ cls := "ChangePlacesModel", name := "done", desc := "(I)I" } : Jvm.MethodName)) ∈ qx_tbl := qx_t9 113 rfl rfl
set_option maxRecDepth 100000 in
theorem t_2034 : (Jvm.Cond.code ({ cls := "ChangePlacesModel", name := "done", desc := "(I)I" } : Jvm.MethodName) prog_14_method_128_code (3 : Nat) (Option.some Jvm.ClassFile.FieldType.int)) ∈ qx_tbl := qx_t9 114 rfl rfl
set_option maxRecDepth 100000 in
theorem t_2035 : (Jvm.Cond.methodLink "ChangePlacesModel" (522 : Nat) ({ cls := "ChangePlacesModel", name := "findsDone", desc := "()I" } : Jvm.MethodName)) ∈ qx_tbl := qx_t9 115 rfl rfl
set_option maxRecDepth 100000 in
theorem t_2037 : (Jvm.Cond.instanceMethod ({ cls := "ChangePlacesModel", name := "findsDone", desc := "()I" } : Jvm.MethodName)) ∈ qx_tbl := qx_t9 117 rfl rfl
set_option maxRecDepth 100000 in
theorem t_2038 : (Jvm.Cond.code ({ cls := "ChangePlacesModel", name := "findsDone", desc := "()I" } : Jvm.MethodName) prog_14_method_127_code (5 : Nat) (Option.some Jvm.ClassFile.FieldType.int)) ∈ qx_tbl := qx_t9 118 rfl rfl
set_option maxRecDepth 100000 in
theorem t_2039 : (Jvm.Cond.methodLink "ChangePlacesModel" (513 : Nat) ({ cls := "ChangePlacesModel", name := "isFound", desc := "(I)Z" } : Jvm.MethodName)) ∈ qx_tbl := qx_t9 119 rfl rfl
set_option maxRecDepth 100000 in
theorem t_2041 : (Jvm.Cond.instanceMethod ({ cls := "ChangePlacesModel", name := "isFound", desc := "(I)Z" } : Jvm.MethodName)) ∈ qx_tbl := qx_t9 121 rfl rfl
set_option maxRecDepth 100000 in
theorem t_2042 : (Jvm.Cond.code ({ cls := "ChangePlacesModel", name := "isFound", desc := "(I)Z" } : Jvm.MethodName) prog_14_method_125_code (3 : Nat) (Option.some Jvm.ClassFile.FieldType.boolean)) ∈ qx_tbl := qx_t9 122 rfl rfl
set_option maxRecDepth 100000 in
theorem t_2043 : (Jvm.Cond.methodLink "ChangePlacesModel" (519 : Nat) ({ cls := "ChangePlacesModel", name := "leads", desc := "(I)Z" } : Jvm.MethodName)) ∈ qx_tbl := qx_t9 123 rfl rfl
set_option maxRecDepth 100000 in
theorem t_2045 : (Jvm.Cond.instanceMethod ({ cls := "ChangePlacesModel", name := "leads", desc := "(I)Z" } : Jvm.MethodName)) ∈ qx_tbl := qx_t9 125 rfl rfl
set_option maxRecDepth 100000 in
theorem t_2046 : (Jvm.Cond.code ({ cls := "ChangePlacesModel", name := "leads", desc := "(I)Z" } : Jvm.MethodName) prog_14_method_126_code (6 : Nat) (Option.some Jvm.ClassFile.FieldType.boolean)) ∈ qx_tbl := qx_t9 126 rfl rfl
set_option maxRecDepth 100000 in
theorem t_2047 : (Jvm.Cond.methodLink "ChangePlacesLaw" (159 : Nat) ({ cls := "ChangePlacesModel", name := "served", desc := "(I)I" } : Jvm.MethodName)) ∈ qx_tbl := qx_t9 127 rfl rfl
set_option maxRecDepth 100000 in
theorem t_2048 : (Jvm.Cond.instanceMethod ({ cls := "ChangePlacesModel", name := "served", desc := "(I)I" } : Jvm.MethodName)) ∈ qx_tbl := qx_t9 128 rfl rfl
set_option maxRecDepth 100000 in
theorem t_2049 : (Jvm.Cond.selects "ChangePlacesModel" ({ cls := "ChangePlacesModel", name := "served", desc := "(I)I" } : Jvm.MethodName) ({ cls := "ChangePlacesModel", name := "served", desc := "(I)I" } : Jvm.MethodName)) ∈ qx_tbl := qx_t9 129 rfl rfl
set_option maxRecDepth 100000 in
theorem t_2050 : (Jvm.Cond.code ({ cls := "ChangePlacesModel", name := "served", desc := "(I)I" } : Jvm.MethodName) prog_14_method_132_code (2 : Nat) (Option.some Jvm.ClassFile.FieldType.int)) ∈ qx_tbl := qx_t9 130 rfl rfl
set_option maxRecDepth 100000 in
theorem t_2051 : (Jvm.Cond.methodLink "ChangePlacesModel" (528 : Nat) ({ cls := "ChangePlacesModel", name := "marksCalls", desc := "()V" } : Jvm.MethodName)) ∈ qx_tbl := qx_t9 131 rfl rfl
set_option maxRecDepth 100000 in
theorem t_2053 : (Jvm.Cond.instanceMethod ({ cls := "ChangePlacesModel", name := "marksCalls", desc := "()V" } : Jvm.MethodName)) ∈ qx_tbl := qx_t9 133 rfl rfl
set_option maxRecDepth 100000 in
theorem t_2054 : (Jvm.Cond.code ({ cls := "ChangePlacesModel", name := "marksCalls", desc := "()V" } : Jvm.MethodName) prog_14_method_130_code (2 : Nat) (Option.none : Option Jvm.ClassFile.FieldType)) ∈ qx_tbl := qx_t9 134 rfl rfl
set_option maxRecDepth 100000 in
theorem t_2055 : (Jvm.Cond.methodLink "ChangePlacesModel" (525 : Nat) ({ cls := "ChangePlacesModel", name := "serving", desc := "(I)I" } : Jvm.MethodName)) ∈ qx_tbl := qx_t9 135 rfl rfl
set_option maxRecDepth 100000 in
theorem t_2057 : (Jvm.Cond.instanceMethod ({ cls := "ChangePlacesModel", name := "serving", desc := "(I)I" } : Jvm.MethodName)) ∈ qx_tbl := qx_t9 137 rfl rfl
set_option maxRecDepth 100000 in
theorem t_2058 : (Jvm.Cond.code ({ cls := "ChangePlacesModel", name := "serving", desc := "(I)I" } : Jvm.MethodName) prog_14_method_129_code (5 : Nat) (Option.some Jvm.ClassFile.FieldType.int)) ∈ qx_tbl := qx_t9 138 rfl rfl
set_option maxRecDepth 100000 in
theorem t_2059 : (Jvm.Cond.methodLink "ChangePlacesModel" (531 : Nat) ({ cls := "ChangePlacesModel", name := "servedOf", desc := "(I)I" } : Jvm.MethodName)) ∈ qx_tbl := qx_t9 139 rfl rfl
set_option maxRecDepth 100000 in
theorem t_2061 : (Jvm.Cond.instanceMethod ({ cls := "ChangePlacesModel", name := "servedOf", desc := "(I)I" } : Jvm.MethodName)) ∈ qx_tbl := qx_t9 141 rfl rfl
set_option maxRecDepth 100000 in
theorem t_2062 : (Jvm.Cond.code ({ cls := "ChangePlacesModel", name := "servedOf", desc := "(I)I" } : Jvm.MethodName) prog_14_method_131_code (4 : Nat) (Option.some Jvm.ClassFile.FieldType.int)) ∈ qx_tbl := qx_t9 142 rfl rfl
set_option maxRecDepth 100000 in
theorem t_2063 : (Jvm.Cond.methodLink "ChangePlacesLaw" (155 : Nat) ({ cls := "ChangePlacesModel", name := "doctors", desc := "(I)I" } : Jvm.MethodName)) ∈ qx_tbl := qx_t9 143 rfl rfl
set_option maxRecDepth 100000 in
theorem t_2064 : (Jvm.Cond.instanceMethod ({ cls := "ChangePlacesModel", name := "doctors", desc := "(I)I" } : Jvm.MethodName)) ∈ qx_tbl := qx_t9 144 rfl rfl
set_option maxRecDepth 100000 in
theorem t_2065 : (Jvm.Cond.selects "ChangePlacesModel" ({ cls := "ChangePlacesModel", name := "doctors", desc := "(I)I" } : Jvm.MethodName) ({ cls := "ChangePlacesModel", name := "doctors", desc := "(I)I" } : Jvm.MethodName)) ∈ qx_tbl := qx_t9 145 rfl rfl
set_option maxRecDepth 100000 in
theorem t_2066 : (Jvm.Cond.code ({ cls := "ChangePlacesModel", name := "doctors", desc := "(I)I" } : Jvm.MethodName) prog_14_method_133_code (7 : Nat) (Option.some Jvm.ClassFile.FieldType.int)) ∈ qx_tbl := qx_t9 146 rfl rfl
set_option maxRecDepth 100000 in
theorem t_2067 : (Jvm.Cond.constantLong "ChangePlacesModel" (534 : Nat) (8 : Int64)) ∈ qx_tbl := qx_t9 147 rfl rfl
set_option maxRecDepth 100000 in
theorem t_2068 : (Jvm.Cond.methodLink "ChangePlacesModel" (536 : Nat) ({ cls := "ChangePlacesModel", name := "bits", desc := "(I)I" } : Jvm.MethodName)) ∈ qx_tbl := qx_t9 148 rfl rfl
set_option maxRecDepth 100000 in
theorem t_2069 : (Jvm.Cond.static ({ cls := "ChangePlacesModel", name := "bits", desc := "(I)I" } : Jvm.MethodName)) ∈ qx_tbl := qx_t9 149 rfl rfl
set_option maxRecDepth 100000 in
theorem t_2070 : (Jvm.Cond.code ({ cls := "ChangePlacesModel", name := "bits", desc := "(I)I" } : Jvm.MethodName) prog_14_method_4_code (3 : Nat) (Option.some Jvm.ClassFile.FieldType.int)) ∈ qx_tbl := qx_t9 150 rfl rfl
set_option maxRecDepth 100000 in
theorem t_2071 : (Jvm.Cond.methodLink "ChangePlacesLaw" (163 : Nat) ({ cls := "ChangePlacesModel", name := "liars", desc := "(I)I" } : Jvm.MethodName)) ∈ qx_tbl := qx_t9 151 rfl rfl
set_option maxRecDepth 100000 in
theorem t_2072 : (Jvm.Cond.instanceMethod ({ cls := "ChangePlacesModel", name := "liars", desc := "(I)I" } : Jvm.MethodName)) ∈ qx_tbl := qx_t9 152 rfl rfl
set_option maxRecDepth 100000 in
theorem t_2073 : (Jvm.Cond.selects "ChangePlacesModel" ({ cls := "ChangePlacesModel", name := "liars", desc := "(I)I" } : Jvm.MethodName) ({ cls := "ChangePlacesModel", name := "liars", desc := "(I)I" } : Jvm.MethodName)) ∈ qx_tbl := qx_t9 153 rfl rfl
set_option maxRecDepth 100000 in
theorem t_2074 : (Jvm.Cond.code ({ cls := "ChangePlacesModel", name := "liars", desc := "(I)I" } : Jvm.MethodName) prog_14_method_136_code (4 : Nat) (Option.some Jvm.ClassFile.FieldType.int)) ∈ qx_tbl := qx_t9 154 rfl rfl
set_option maxRecDepth 100000 in
theorem t_2075 : (Jvm.Cond.methodLink "ChangePlacesModel" (542 : Nat) ({ cls := "ChangePlacesModel", name := "gainsBy", desc := "(II)I" } : Jvm.MethodName)) ∈ qx_tbl := qx_t9 155 rfl rfl
set_option maxRecDepth 100000 in
theorem t_2077 : (Jvm.Cond.instanceMethod ({ cls := "ChangePlacesModel", name := "gainsBy", desc := "(II)I" } : Jvm.MethodName)) ∈ qx_tbl := qx_t9 157 rfl rfl
set_option maxRecDepth 100000 in
theorem t_2078 : (Jvm.Cond.code ({ cls := "ChangePlacesModel", name := "gainsBy", desc := "(II)I" } : Jvm.MethodName) prog_14_method_135_code (6 : Nat) (Option.some Jvm.ClassFile.FieldType.int)) ∈ qx_tbl := qx_t9 158 rfl rfl
set_option maxRecDepth 100000 in
theorem t_2079 : (Jvm.Cond.methodLink "ChangePlacesModel" (539 : Nat) ({ cls := "ChangePlacesModel", name := "comesBy", desc := "(II)I" } : Jvm.MethodName)) ∈ qx_tbl := qx_t9 159 rfl rfl
set_option maxRecDepth 100000 in
theorem t_2081 : (Jvm.Cond.instanceMethod ({ cls := "ChangePlacesModel", name := "comesBy", desc := "(II)I" } : Jvm.MethodName)) ∈ qx_tbl := qx_t9 161 rfl rfl
set_option maxRecDepth 100000 in
theorem t_2082 : (Jvm.Cond.code ({ cls := "ChangePlacesModel", name := "comesBy", desc := "(II)I" } : Jvm.MethodName) prog_14_method_134_code (3 : Nat) (Option.some Jvm.ClassFile.FieldType.int)) ∈ qx_tbl := qx_t9 162 rfl rfl
set_option maxRecDepth 100000 in
theorem t_2083 : (Jvm.Cond.methodLink "ChangePlacesLaw" (167 : Nat) ({ cls := "ChangePlacesModel", name := "lie", desc := "(II)I" } : Jvm.MethodName)) ∈ qx_tbl := qx_t9 163 rfl rfl
set_option maxRecDepth 100000 in
theorem t_2084 : (Jvm.Cond.instanceMethod ({ cls := "ChangePlacesModel", name := "lie", desc := "(II)I" } : Jvm.MethodName)) ∈ qx_tbl := qx_t9 164 rfl rfl
set_option maxRecDepth 100000 in
theorem t_2085 : (Jvm.Cond.selects "ChangePlacesModel" ({ cls := "ChangePlacesModel", name := "lie", desc := "(II)I" } : Jvm.MethodName) ({ cls := "ChangePlacesModel", name := "lie", desc := "(II)I" } : Jvm.MethodName)) ∈ qx_tbl := qx_t9 165 rfl rfl
set_option maxRecDepth 100000 in
theorem t_2086 : (Jvm.Cond.code ({ cls := "ChangePlacesModel", name := "lie", desc := "(II)I" } : Jvm.MethodName) prog_14_method_137_code (3 : Nat) (Option.some Jvm.ClassFile.FieldType.int)) ∈ qx_tbl := qx_t9 166 rfl rfl
set_option maxRecDepth 100000 in
theorem t_2087 : (Jvm.Cond.methodLink "ChangePlacesLaw" (171 : Nat) ({ cls := "ChangePlacesModel", name := "seed", desc := "(I)I" } : Jvm.MethodName)) ∈ qx_tbl := qx_t9 167 rfl rfl
set_option maxRecDepth 100000 in
theorem t_2088 : (Jvm.Cond.instanceMethod ({ cls := "ChangePlacesModel", name := "seed", desc := "(I)I" } : Jvm.MethodName)) ∈ qx_tbl := qx_t9 168 rfl rfl
set_option maxRecDepth 100000 in
theorem t_2089 : (Jvm.Cond.selects "ChangePlacesModel" ({ cls := "ChangePlacesModel", name := "seed", desc := "(I)I" } : Jvm.MethodName) ({ cls := "ChangePlacesModel", name := "seed", desc := "(I)I" } : Jvm.MethodName)) ∈ qx_tbl := qx_t9 169 rfl rfl
set_option maxRecDepth 100000 in
theorem t_2090 : (Jvm.Cond.code ({ cls := "ChangePlacesModel", name := "seed", desc := "(I)I" } : Jvm.MethodName) prog_14_method_138_code (3 : Nat) (Option.some Jvm.ClassFile.FieldType.int)) ∈ qx_tbl := qx_t9 170 rfl rfl
set_option maxRecDepth 100000 in
theorem t_2091 : (Jvm.Cond.methodLink "ChangePlacesLaw" (175 : Nat) ({ cls := "ChangePlacesModel", name := "years", desc := "(III)I" } : Jvm.MethodName)) ∈ qx_tbl := qx_t9 171 rfl rfl
set_option maxRecDepth 100000 in
theorem t_2092 : (Jvm.Cond.instanceMethod ({ cls := "ChangePlacesModel", name := "years", desc := "(III)I" } : Jvm.MethodName)) ∈ qx_tbl := qx_t9 172 rfl rfl
set_option maxRecDepth 100000 in
theorem t_2093 : (Jvm.Cond.selects "ChangePlacesModel" ({ cls := "ChangePlacesModel", name := "years", desc := "(III)I" } : Jvm.MethodName) ({ cls := "ChangePlacesModel", name := "years", desc := "(III)I" } : Jvm.MethodName)) ∈ qx_tbl := qx_t9 173 rfl rfl
set_option maxRecDepth 100000 in
theorem t_2094 : (Jvm.Cond.code ({ cls := "ChangePlacesModel", name := "years", desc := "(III)I" } : Jvm.MethodName) prog_14_method_140_code (11 : Nat) (Option.some Jvm.ClassFile.FieldType.int)) ∈ qx_tbl := qx_t9 174 rfl rfl
set_option maxRecDepth 100000 in
theorem t_2095 : (Jvm.Cond.constantLong "ChangePlacesModel" (557 : Nat) (20 : Int64)) ∈ qx_tbl := qx_t9 175 rfl rfl
set_option maxRecDepth 100000 in
theorem t_2096 : (Jvm.Cond.constantLong "ChangePlacesModel" (559 : Nat) (200 : Int64)) ∈ qx_tbl := qx_t9 176 rfl rfl
set_option maxRecDepth 100000 in
theorem t_2097 : (Jvm.Cond.methodLink "ChangePlacesModel" (561 : Nat) ({ cls := "ChangePlacesModel", name := "draw", desc := "(I)I" } : Jvm.MethodName)) ∈ qx_tbl := qx_t9 177 rfl rfl
set_option maxRecDepth 100000 in
theorem t_2099 : (Jvm.Cond.instanceMethod ({ cls := "ChangePlacesModel", name := "draw", desc := "(I)I" } : Jvm.MethodName)) ∈ qx_tbl := qx_t9 179 rfl rfl
set_option maxRecDepth 100000 in
theorem t_2100 : (Jvm.Cond.code ({ cls := "ChangePlacesModel", name := "draw", desc := "(I)I" } : Jvm.MethodName) prog_14_method_139_code (2 : Nat) (Option.some Jvm.ClassFile.FieldType.int)) ∈ qx_tbl := qx_t9 180 rfl rfl
set_option maxRecDepth 100000 in
theorem t_2101 : (Jvm.Cond.constantLong "ChangePlacesModel" (549 : Nat) (1103515245 : Int64)) ∈ qx_tbl := qx_t9 181 rfl rfl
set_option maxRecDepth 100000 in
theorem t_2102 : (Jvm.Cond.constantLong "ChangePlacesModel" (551 : Nat) (12345 : Int64)) ∈ qx_tbl := qx_t9 182 rfl rfl
set_option maxRecDepth 100000 in
theorem t_2103 : (Jvm.Cond.constantLong "ChangePlacesModel" (553 : Nat) (2147483648 : Int64)) ∈ qx_tbl := qx_t9 183 rfl rfl
set_option maxRecDepth 100000 in
theorem t_2104 : (Jvm.Cond.constantLong "ChangePlacesModel" (555 : Nat) (65536 : Int64)) ∈ qx_tbl := qx_t9 184 rfl rfl
set_option maxRecDepth 100000 in
theorem t_2105 : (Jvm.Cond.methodLink "ChangePlacesLaw" (179 : Nat) ({ cls := "ChangePlacesModel", name := "count", desc := "(I)I" } : Jvm.MethodName)) ∈ qx_tbl := qx_t9 185 rfl rfl
set_option maxRecDepth 100000 in
theorem t_2106 : (Jvm.Cond.instanceMethod ({ cls := "ChangePlacesModel", name := "count", desc := "(I)I" } : Jvm.MethodName)) ∈ qx_tbl := qx_t9 186 rfl rfl
set_option maxRecDepth 100000 in
theorem t_2107 : (Jvm.Cond.selects "ChangePlacesModel" ({ cls := "ChangePlacesModel", name := "count", desc := "(I)I" } : Jvm.MethodName) ({ cls := "ChangePlacesModel", name := "count", desc := "(I)I" } : Jvm.MethodName)) ∈ qx_tbl := qx_t9 187 rfl rfl
set_option maxRecDepth 100000 in
theorem t_2108 : (Jvm.Cond.code ({ cls := "ChangePlacesModel", name := "count", desc := "(I)I" } : Jvm.MethodName) prog_14_method_141_code (4 : Nat) (Option.some Jvm.ClassFile.FieldType.int)) ∈ qx_tbl := qx_t9 188 rfl rfl
set_option maxRecDepth 100000 in
theorem t_2109 : (Jvm.Cond.methodLink "ChangePlacesLaw" (183 : Nat) ({ cls := "ChangePlacesModel", name := "image", desc := "(I)I" } : Jvm.MethodName)) ∈ qx_tbl := qx_t9 189 rfl rfl
set_option maxRecDepth 100000 in
theorem t_2110 : (Jvm.Cond.instanceMethod ({ cls := "ChangePlacesModel", name := "image", desc := "(I)I" } : Jvm.MethodName)) ∈ qx_tbl := qx_t9 190 rfl rfl
set_option maxRecDepth 100000 in
theorem t_2111 : (Jvm.Cond.selects "ChangePlacesModel" ({ cls := "ChangePlacesModel", name := "image", desc := "(I)I" } : Jvm.MethodName) ({ cls := "ChangePlacesModel", name := "image", desc := "(I)I" } : Jvm.MethodName)) ∈ qx_tbl := qx_t9 191 rfl rfl
set_option maxRecDepth 100000 in
theorem t_2112 : (Jvm.Cond.code ({ cls := "ChangePlacesModel", name := "image", desc := "(I)I" } : Jvm.MethodName) prog_14_method_142_code (3 : Nat) (Option.some Jvm.ClassFile.FieldType.int)) ∈ qx_tbl := qx_t9 192 rfl rfl
set_option maxRecDepth 100000 in
theorem t_2113 : (Jvm.Cond.methodLink "ChangePlacesLaw" (187 : Nat) ({ cls := "ChangePlacesModel", name := "back", desc := "(I)I" } : Jvm.MethodName)) ∈ qx_tbl := qx_t9 193 rfl rfl
set_option maxRecDepth 100000 in
theorem t_2114 : (Jvm.Cond.instanceMethod ({ cls := "ChangePlacesModel", name := "back", desc := "(I)I" } : Jvm.MethodName)) ∈ qx_tbl := qx_t9 194 rfl rfl
set_option maxRecDepth 100000 in
theorem t_2115 : (Jvm.Cond.selects "ChangePlacesModel" ({ cls := "ChangePlacesModel", name := "back", desc := "(I)I" } : Jvm.MethodName) ({ cls := "ChangePlacesModel", name := "back", desc := "(I)I" } : Jvm.MethodName)) ∈ qx_tbl := qx_t9 195 rfl rfl
set_option maxRecDepth 100000 in
theorem t_2116 : (Jvm.Cond.code ({ cls := "ChangePlacesModel", name := "back", desc := "(I)I" } : Jvm.MethodName) prog_14_method_143_code (3 : Nat) (Option.some Jvm.ClassFile.FieldType.int)) ∈ qx_tbl := qx_t9 196 rfl rfl
set_option maxRecDepth 100000 in
theorem t_2117 : (Jvm.Cond.sameMethod "ChangePlaces$Way" "ChangePlaces$Way" "wouldLike" "([III)Z") ∈ qx_tbl := qx_t9 197 rfl rfl
set_option maxRecDepth 100000 in
theorem n_32 : (Jvm.Cond.methodLinkNest "ChangePlaces" (9 : Nat) ({ cls := "ChangePlaces$Tape", name := "<init>", desc := "()V" } : Jvm.MethodName) "ChangePlaces") ∈ qx_nst := qx_n1 32 rfl rfl
set_option maxRecDepth 100000 in
theorem n_41 : (Jvm.Cond.fieldLinkNest "ChangePlaces" (117 : Nat) "ChangePlaces$Tape" "length" "I" "ChangePlaces") ∈ qx_nst := qx_n1 41 rfl rfl
set_option maxRecDepth 100000 in
theorem n_45 : (Jvm.Cond.fieldLinkNest "ChangePlaces" (128 : Nat) "ChangePlaces$Tape" "fault" "I" "ChangePlaces") ∈ qx_nst := qx_n1 45 rfl rfl
set_option maxRecDepth 100000 in
theorem n_67 : (Jvm.Cond.methodLinkNest "ChangePlaces" (18 : Nat) ({ cls := "ChangePlaces$Country", name := "<init>", desc := "()V" } : Jvm.MethodName) "ChangePlaces") ∈ qx_nst := qx_n1 67 rfl rfl
set_option maxRecDepth 100000 in
theorem n_72 : (Jvm.Cond.fieldLinkNest "ChangePlaces" (152 : Nat) "ChangePlaces$Country" "weight" "[I" "ChangePlaces") ∈ qx_nst := qx_n1 72 rfl rfl
set_option maxRecDepth 100000 in
theorem n_73 : (Jvm.Cond.fieldLinkNest "ChangePlaces$Standing" (55 : Nat) "ChangePlaces$Country" "weight" "[I" "ChangePlaces") ∈ qx_nst := qx_n1 73 rfl rfl
set_option maxRecDepth 100000 in
theorem n_74 : (Jvm.Cond.fieldLinkNest "ChangePlaces$Laws" (130 : Nat) "ChangePlaces$Country" "weight" "[I" "ChangePlaces") ∈ qx_nst := qx_n1 74 rfl rfl
set_option maxRecDepth 100000 in
theorem n_76 : (Jvm.Cond.fieldLinkNest "ChangePlaces$State" (70 : Nat) "ChangePlaces$Country" "home" "[I" "ChangePlaces") ∈ qx_nst := qx_n1 76 rfl rfl
set_option maxRecDepth 100000 in
theorem n_77 : (Jvm.Cond.fieldLinkNest "ChangePlaces" (155 : Nat) "ChangePlaces$Country" "home" "[I" "ChangePlaces") ∈ qx_nst := qx_n1 77 rfl rfl
set_option maxRecDepth 100000 in
theorem n_78 : (Jvm.Cond.fieldLinkNest "ChangePlaces$Laws" (133 : Nat) "ChangePlaces$Country" "home" "[I" "ChangePlaces") ∈ qx_nst := qx_n1 78 rfl rfl
set_option maxRecDepth 100000 in
theorem n_80 : (Jvm.Cond.fieldLinkNest "ChangePlaces$Laws" (53 : Nat) "ChangePlaces$Country" "worth" "[I" "ChangePlaces") ∈ qx_nst := qx_n1 80 rfl rfl
set_option maxRecDepth 100000 in
theorem n_81 : (Jvm.Cond.fieldLinkNest "ChangePlaces" (178 : Nat) "ChangePlaces$Country" "worth" "[I" "ChangePlaces") ∈ qx_nst := qx_n1 81 rfl rfl
set_option maxRecDepth 100000 in
theorem n_83 : (Jvm.Cond.fieldLinkNest "ChangePlaces" (194 : Nat) "ChangePlaces$Country" "callsAt" "[I" "ChangePlaces") ∈ qx_nst := qx_n1 83 rfl rfl
set_option maxRecDepth 100000 in
theorem n_85 : (Jvm.Cond.fieldLinkNest "ChangePlaces$Way" (70 : Nat) "ChangePlaces$Country" "places" "I" "ChangePlaces") ∈ qx_nst := qx_n1 85 rfl rfl
set_option maxRecDepth 100000 in
theorem n_86 : (Jvm.Cond.fieldLinkNest "ChangePlaces$Laws" (99 : Nat) "ChangePlaces$Country" "places" "I" "ChangePlaces") ∈ qx_nst := qx_n1 86 rfl rfl
set_option maxRecDepth 100000 in
theorem n_87 : (Jvm.Cond.fieldLinkNest "ChangePlaces" (197 : Nat) "ChangePlaces$Country" "places" "I" "ChangePlaces") ∈ qx_nst := qx_n1 87 rfl rfl
set_option maxRecDepth 100000 in
theorem n_89 : (Jvm.Cond.fieldLinkNest "ChangePlaces$Core" (25 : Nat) "ChangePlaces$Country" "people" "I" "ChangePlaces") ∈ qx_nst := qx_n1 89 rfl rfl
set_option maxRecDepth 100000 in
theorem n_90 : (Jvm.Cond.fieldLinkNest "ChangePlaces$Search" (50 : Nat) "ChangePlaces$Country" "people" "I" "ChangePlaces") ∈ qx_nst := qx_n1 90 rfl rfl
set_option maxRecDepth 100000 in
theorem n_91 : (Jvm.Cond.fieldLinkNest "ChangePlaces$Most" (75 : Nat) "ChangePlaces$Country" "people" "I" "ChangePlaces") ∈ qx_nst := qx_n1 91 rfl rfl
set_option maxRecDepth 100000 in
theorem n_92 : (Jvm.Cond.fieldLinkNest "ChangePlaces" (138 : Nat) "ChangePlaces$Country" "people" "I" "ChangePlaces") ∈ qx_nst := qx_n1 92 rfl rfl
set_option maxRecDepth 100000 in
theorem n_93 : (Jvm.Cond.fieldLinkNest "ChangePlaces$Way" (47 : Nat) "ChangePlaces$Country" "people" "I" "ChangePlaces") ∈ qx_nst := qx_n1 93 rfl rfl
set_option maxRecDepth 100000 in
theorem n_94 : (Jvm.Cond.fieldLinkNest "ChangePlaces$State" (92 : Nat) "ChangePlaces$Country" "people" "I" "ChangePlaces") ∈ qx_nst := qx_n1 94 rfl rfl
set_option maxRecDepth 100000 in
theorem n_96 : (Jvm.Cond.fieldLinkNest "ChangePlaces" (200 : Nat) "ChangePlaces$Country" "calls" "I" "ChangePlaces") ∈ qx_nst := qx_n1 96 rfl rfl
set_option maxRecDepth 100000 in
theorem n_127 : (Jvm.Cond.methodLinkNest "ChangePlaces$State" (11 : Nat) ({ cls := "ChangePlaces$Country", name := "<init>", desc := "()V" } : Jvm.MethodName) "ChangePlaces") ∈ qx_nst := qx_n1 127 rfl rfl
set_option maxRecDepth 100000 in
theorem n_130 : (Jvm.Cond.methodLinkNest "ChangePlaces$State" (20 : Nat) ({ cls := "ChangePlaces$Standing", name := "<init>", desc := "()V" } : Jvm.MethodName) "ChangePlaces") ∈ qx_nst := qx_n1 130 rfl rfl
set_option maxRecDepth 100000 in
theorem n_135 : (Jvm.Cond.fieldLinkNest "ChangePlaces$Way" (32 : Nat) "ChangePlaces$Standing" "at" "[I" "ChangePlaces") ∈ qx_nst := qx_n1 135 rfl rfl
set_option maxRecDepth 100000 in
theorem n_136 : (Jvm.Cond.fieldLinkNest "ChangePlaces$Core" (46 : Nat) "ChangePlaces$Standing" "at" "[I" "ChangePlaces") ∈ qx_nst := qx_n1 136 rfl rfl
set_option maxRecDepth 100000 in
theorem n_137 : (Jvm.Cond.fieldLinkNest "ChangePlaces$Most" (117 : Nat) "ChangePlaces$Standing" "at" "[I" "ChangePlaces") ∈ qx_nst := qx_n1 137 rfl rfl
set_option maxRecDepth 100000 in
theorem n_138 : (Jvm.Cond.fieldLinkNest "ChangePlaces" (149 : Nat) "ChangePlaces$Standing" "at" "[I" "ChangePlaces") ∈ qx_nst := qx_n1 138 rfl rfl
set_option maxRecDepth 100000 in
theorem n_140 : (Jvm.Cond.fieldLinkNest "ChangePlaces" (161 : Nat) "ChangePlaces$Standing" "moved" "[I" "ChangePlaces") ∈ qx_nst := qx_n1 140 rfl rfl
set_option maxRecDepth 100000 in
theorem n_141 : (Jvm.Cond.fieldLinkNest "ChangePlaces$Laws" (144 : Nat) "ChangePlaces$Standing" "moved" "[I" "ChangePlaces") ∈ qx_nst := qx_n1 141 rfl rfl
set_option maxRecDepth 100000 in
theorem n_143 : (Jvm.Cond.fieldLinkNest "ChangePlaces" (252 : Nat) "ChangePlaces$Standing" "owed" "[I" "ChangePlaces") ∈ qx_nst := qx_n1 143 rfl rfl
set_option maxRecDepth 100000 in
theorem n_145 : (Jvm.Cond.fieldLinkNest "ChangePlaces" (164 : Nat) "ChangePlaces$Standing" "debt" "[I" "ChangePlaces") ∈ qx_nst := qx_n1 145 rfl rfl
set_option maxRecDepth 100000 in
theorem n_146 : (Jvm.Cond.fieldLinkNest "ChangePlaces$Laws" (136 : Nat) "ChangePlaces$Standing" "debt" "[I" "ChangePlaces") ∈ qx_nst := qx_n1 146 rfl rfl
set_option maxRecDepth 100000 in
theorem n_148 : (Jvm.Cond.fieldLinkNest "ChangePlaces" (203 : Nat) "ChangePlaces$Standing" "day" "I" "ChangePlaces") ∈ qx_nst := qx_n1 148 rfl rfl
set_option maxRecDepth 100000 in
theorem n_149 : (Jvm.Cond.fieldLinkNest "ChangePlaces$Laws" (141 : Nat) "ChangePlaces$Standing" "day" "I" "ChangePlaces") ∈ qx_nst := qx_n1 149 rfl rfl
set_option maxRecDepth 100000 in
theorem n_151 : (Jvm.Cond.fieldLinkNest "ChangePlaces" (225 : Nat) "ChangePlaces$Standing" "rings" "I" "ChangePlaces") ∈ qx_nst := qx_n1 151 rfl rfl
set_option maxRecDepth 100000 in
theorem n_168 : (Jvm.Cond.methodLinkNest "ChangePlaces$State" (31 : Nat) ({ cls := "ChangePlaces$Ring", name := "<init>", desc := "()V" } : Jvm.MethodName) "ChangePlaces") ∈ qx_nst := qx_n1 168 rfl rfl
set_option maxRecDepth 100000 in
theorem n_173 : (Jvm.Cond.fieldLinkNest "ChangePlaces$Laws" (111 : Nat) "ChangePlaces$Ring" "who" "[I" "ChangePlaces") ∈ qx_nst := qx_n1 173 rfl rfl
set_option maxRecDepth 100000 in
theorem n_174 : (Jvm.Cond.fieldLinkNest "ChangePlaces$Standing" (48 : Nat) "ChangePlaces$Ring" "who" "[I" "ChangePlaces") ∈ qx_nst := qx_n1 174 rfl rfl
set_option maxRecDepth 100000 in
theorem n_176 : (Jvm.Cond.fieldLinkNest "ChangePlaces$State" (77 : Nat) "ChangePlaces$Ring" "size" "I" "ChangePlaces") ∈ qx_nst := qx_n1 176 rfl rfl
set_option maxRecDepth 100000 in
theorem n_177 : (Jvm.Cond.fieldLinkNest "ChangePlaces$Laws" (106 : Nat) "ChangePlaces$Ring" "size" "I" "ChangePlaces") ∈ qx_nst := qx_n1 177 rfl rfl
set_option maxRecDepth 100000 in
theorem n_178 : (Jvm.Cond.fieldLinkNest "ChangePlaces$Standing" (43 : Nat) "ChangePlaces$Ring" "size" "I" "ChangePlaces") ∈ qx_nst := qx_n1 178 rfl rfl
set_option maxRecDepth 100000 in
theorem n_179 : (Jvm.Cond.fieldLinkNest "ChangePlaces" (209 : Nat) "ChangePlaces$Ring" "size" "I" "ChangePlaces") ∈ qx_nst := qx_n1 179 rfl rfl
set_option maxRecDepth 100000 in
theorem n_190 : (Jvm.Cond.fieldLinkNest "ChangePlaces" (42 : Nat) "ChangePlaces$State" "land" "LChangePlaces$Country;" "ChangePlaces") ∈ qx_nst := qx_n1 190 rfl rfl
set_option maxRecDepth 100000 in
theorem n_192 : (Jvm.Cond.fieldLinkNest "ChangePlaces" (45 : Nat) "ChangePlaces$State" "now" "LChangePlaces$Standing;" "ChangePlaces") ∈ qx_nst := qx_n1 192 rfl rfl
set_option maxRecDepth 100000 in
theorem n_195 : (Jvm.Cond.fieldLinkNest "ChangePlaces" (206 : Nat) "ChangePlaces$State" "called" "LChangePlaces$Ring;" "ChangePlaces") ∈ qx_nst := qx_n1 195 rfl rfl
set_option maxRecDepth 100000 in
theorem n_197 : (Jvm.Cond.fieldLinkNest "ChangePlaces" (265 : Nat) "ChangePlaces$State" "told" "[LChangePlaces$Ring;" "ChangePlaces") ∈ qx_nst := qx_n1 197 rfl rfl
set_option maxRecDepth 100000 in
theorem n_199 : (Jvm.Cond.fieldLinkNest "ChangePlaces" (340 : Nat) "ChangePlaces$State" "foundAt" "[I" "ChangePlaces") ∈ qx_nst := qx_n1 199 rfl rfl
set_option maxRecDepth 100000 in
theorem n_202 : (Jvm.Cond.fieldLinkNest "ChangePlaces" (215 : Nat) "ChangePlaces$State" "pastSize" "I" "ChangePlaces") ∈ qx_nst := qx_n1 202 rfl rfl
set_option maxRecDepth 100000 in
theorem n_204 : (Jvm.Cond.fieldLinkNest "ChangePlaces" (212 : Nat) "ChangePlaces$State" "bookSize" "I" "ChangePlaces") ∈ qx_nst := qx_n1 204 rfl rfl
set_option maxRecDepth 100000 in
theorem n_206 : (Jvm.Cond.fieldLinkNest "ChangePlaces" (142 : Nat) "ChangePlaces$State" "inForce" "I" "ChangePlaces") ∈ qx_nst := qx_n1 206 rfl rfl
set_option maxRecDepth 100000 in
theorem n_208 : (Jvm.Cond.fieldLinkNest "ChangePlaces" (228 : Nat) "ChangePlaces$State" "x" "I" "ChangePlaces") ∈ qx_nst := qx_n1 208 rfl rfl
set_option maxRecDepth 100000 in
theorem n_240 : (Jvm.Cond.fieldLinkNest "ChangePlaces$Core" (19 : Nat) "ChangePlaces$Laws" "land" "LChangePlaces$Country;" "ChangePlaces") ∈ qx_nst := qx_n2 0 rfl rfl
set_option maxRecDepth 100000 in
theorem n_241 : (Jvm.Cond.fieldLinkNest "ChangePlaces$Search" (44 : Nat) "ChangePlaces$Laws" "land" "LChangePlaces$Country;" "ChangePlaces") ∈ qx_nst := qx_n2 1 rfl rfl
set_option maxRecDepth 100000 in
theorem n_242 : (Jvm.Cond.fieldLinkNest "ChangePlaces$Most" (71 : Nat) "ChangePlaces$Laws" "land" "LChangePlaces$Country;" "ChangePlaces") ∈ qx_nst := qx_n2 2 rfl rfl
set_option maxRecDepth 100000 in
theorem n_243 : (Jvm.Cond.fieldLinkNest "ChangePlaces$Way" (41 : Nat) "ChangePlaces$Laws" "land" "LChangePlaces$Country;" "ChangePlaces") ∈ qx_nst := qx_n2 3 rfl rfl
set_option maxRecDepth 100000 in
theorem n_252 : (Jvm.Cond.fieldLinkNest "ChangePlaces$Most" (63 : Nat) "ChangePlaces$Laws" "edition" "I" "ChangePlaces") ∈ qx_nst := qx_n2 12 rfl rfl
set_option maxRecDepth 100000 in
theorem n_253 : (Jvm.Cond.fieldLinkNest "ChangePlaces$Search" (61 : Nat) "ChangePlaces$Laws" "edition" "I" "ChangePlaces") ∈ qx_nst := qx_n2 13 rfl rfl
set_option maxRecDepth 100000 in
theorem n_254 : (Jvm.Cond.fieldLinkNest "ChangePlaces$Way" (57 : Nat) "ChangePlaces$Laws" "edition" "I" "ChangePlaces") ∈ qx_nst := qx_n2 14 rfl rfl
set_option maxRecDepth 100000 in
theorem n_255 : (Jvm.Cond.fieldLinkNest "ChangePlaces" (400 : Nat) "ChangePlaces$Laws" "edition" "I" "ChangePlaces") ∈ qx_nst := qx_n2 15 rfl rfl
set_option maxRecDepth 100000 in
theorem n_379 : (Jvm.Cond.methodLinkNest "ChangePlaces" (74 : Nat) ({ cls := "ChangePlaces$Standing", name := "<init>", desc := "()V" } : Jvm.MethodName) "ChangePlaces") ∈ qx_nst := qx_n2 139 rfl rfl
set_option maxRecDepth 100000 in
theorem n_381 : (Jvm.Cond.methodLinkNest "ChangePlaces" (80 : Nat) ({ cls := "ChangePlaces$Ring", name := "<init>", desc := "()V" } : Jvm.MethodName) "ChangePlaces") ∈ qx_nst := qx_n2 141 rfl rfl
set_option maxRecDepth 100000 in
theorem n_383 : (Jvm.Cond.methodLinkNest "ChangePlaces" (98 : Nat) ({ cls := "ChangePlaces$Rule", name := "<init>", desc := "()V" } : Jvm.MethodName) "ChangePlaces") ∈ qx_nst := qx_n2 143 rfl rfl
set_option maxRecDepth 100000 in
theorem n_388 : (Jvm.Cond.fieldLinkNest "ChangePlaces$Laws" (147 : Nat) "ChangePlaces$Rule" "steps" "[I" "ChangePlaces") ∈ qx_nst := qx_n2 148 rfl rfl
set_option maxRecDepth 100000 in
theorem n_390 : (Jvm.Cond.fieldLinkNest "ChangePlaces$Laws" (71 : Nat) "ChangePlaces$Rule" "bars" "[Z" "ChangePlaces") ∈ qx_nst := qx_n2 150 rfl rfl
set_option maxRecDepth 100000 in
theorem n_392 : (Jvm.Cond.fieldLinkNest "ChangePlaces$Laws" (79 : Nat) "ChangePlaces$Rule" "from" "[I" "ChangePlaces") ∈ qx_nst := qx_n2 152 rfl rfl
set_option maxRecDepth 100000 in
theorem n_394 : (Jvm.Cond.fieldLinkNest "ChangePlaces$Laws" (65 : Nat) "ChangePlaces$Rule" "testFrom" "[I" "ChangePlaces") ∈ qx_nst := qx_n2 154 rfl rfl
set_option maxRecDepth 100000 in
theorem n_396 : (Jvm.Cond.fieldLinkNest "ChangePlaces$Laws" (68 : Nat) "ChangePlaces$Rule" "to" "[I" "ChangePlaces") ∈ qx_nst := qx_n2 156 rfl rfl
set_option maxRecDepth 100000 in
theorem n_399 : (Jvm.Cond.fieldLinkNest "ChangePlaces$Laws" (62 : Nat) "ChangePlaces$Rule" "clauses" "I" "ChangePlaces") ∈ qx_nst := qx_n2 159 rfl rfl
set_option maxRecDepth 100000 in
theorem n_402 : (Jvm.Cond.fieldLinkNest "ChangePlaces$Laws" (50 : Nat) "ChangePlaces$Rule" "growing" "Z" "ChangePlaces") ∈ qx_nst := qx_n2 162 rfl rfl
set_option maxRecDepth 100000 in
theorem n_1138 : (Jvm.Cond.fieldLinkNest "ChangePlaces" (323 : Nat) "ChangePlaces$Search" "depth" "[I" "ChangePlaces") ∈ qx_nst := qx_n5 178 rfl rfl
set_option maxRecDepth 100000 in
theorem n_1142 : (Jvm.Cond.fieldLinkNest "ChangePlaces" (353 : Nat) "ChangePlaces$Search" "ways" "[I" "ChangePlaces") ∈ qx_nst := qx_n5 182 rfl rfl
set_option maxRecDepth 100000 in
theorem n_1145 : (Jvm.Cond.fieldLinkNest "ChangePlaces" (336 : Nat) "ChangePlaces$Search" "size" "I" "ChangePlaces") ∈ qx_nst := qx_n5 185 rfl rfl
set_option maxRecDepth 100000 in
theorem n_1148 : (Jvm.Cond.fieldLinkNest "ChangePlaces" (432 : Nat) "ChangePlaces$Search" "edition" "I" "ChangePlaces") ∈ qx_nst := qx_n5 188 rfl rfl
set_option maxRecDepth 100000 in
theorem n_1297 : (Jvm.Cond.declares ({ cls := "ChangePlaces$Way", name := "settle", desc := "([II)V" } : Jvm.MethodName)) ∈ qx_nst := qx_n6 97 rfl rfl
set_option maxRecDepth 100000 in
theorem p_0 : Cond.selects "ChangePlaces$Country" ⟨"ChangePlaces$Country", "clear", "()V"⟩ ⟨"ChangePlaces$Country", "clear", "()V"⟩ ∈ qx_tbl := qx_tp 0 rfl rfl
set_option maxRecDepth 100000 in
theorem p_1 : Cond.selects "ChangePlaces$Tape" ⟨"ChangePlaces$Tape", "byteAt", "(I)I"⟩ ⟨"ChangePlaces$Tape", "byteAt", "(I)I"⟩ ∈ qx_tbl := qx_tp 1 rfl rfl
set_option maxRecDepth 100000 in
theorem p_2 : Cond.selects "ChangePlaces$Tape" ⟨"ChangePlaces$Tape", "cutWord", "(I)I"⟩ ⟨"ChangePlaces$Tape", "cutWord", "(I)I"⟩ ∈ qx_tbl := qx_tp 2 rfl rfl
set_option maxRecDepth 100000 in
theorem p_3 : Cond.selects "ChangePlaces$Tape" ⟨"ChangePlaces$Tape", "matches", "(III)Z"⟩ ⟨"ChangePlaces$Tape", "matches", "(III)Z"⟩ ∈ qx_tbl := qx_tp 3 rfl rfl
set_option maxRecDepth 100000 in
theorem p_4 : Cond.selects "ChangePlaces$Tape" ⟨"ChangePlaces$Tape", "keep", "(III)V"⟩ ⟨"ChangePlaces$Tape", "keep", "(III)V"⟩ ∈ qx_tbl := qx_tp 4 rfl rfl
set_option maxRecDepth 100000 in
theorem p_5 : Cond.selects "ChangePlaces$Tape" ⟨"ChangePlaces$Tape", "cutNumber", "(I)I"⟩ ⟨"ChangePlaces$Tape", "cutNumber", "(I)I"⟩ ∈ qx_tbl := qx_tp 5 rfl rfl
set_option maxRecDepth 100000 in
theorem p_6 : Cond.selects "ChangePlaces$Country" ⟨"ChangePlaces$Country", "mayStand", "(II)Z"⟩ ⟨"ChangePlaces$Country", "mayStand", "(II)Z"⟩ ∈ qx_tbl := qx_tp 6 rfl rfl
set_option maxRecDepth 100000 in
theorem p_7 : Cond.selects "ChangePlaces$Country" ⟨"ChangePlaces$Country", "readClause", "(LChangePlaces$Tape;I)Z"⟩ ⟨"ChangePlaces$Country", "readClause", "(LChangePlaces$Tape;I)Z"⟩ ∈ qx_tbl := qx_tp 7 rfl rfl
set_option maxRecDepth 100000 in
theorem p_8 : Cond.selects "ChangePlaces$Country" ⟨"ChangePlaces$Country", "readPlaces", "(LChangePlaces$Tape;)Z"⟩ ⟨"ChangePlaces$Country", "readPlaces", "(LChangePlaces$Tape;)Z"⟩ ∈ qx_tbl := qx_tp 8 rfl rfl
set_option maxRecDepth 100000 in
theorem p_9 : Cond.selects "ChangePlaces$Country" ⟨"ChangePlaces$Country", "readNumber", "(LChangePlaces$Tape;II)Z"⟩ ⟨"ChangePlaces$Country", "readNumber", "(LChangePlaces$Tape;II)Z"⟩ ∈ qx_tbl := qx_tp 9 rfl rfl
set_option maxRecDepth 100000 in
theorem p_10 : Cond.selects "ChangePlaces$Country" ⟨"ChangePlaces$Country", "readPerson", "(LChangePlaces$Tape;)Z"⟩ ⟨"ChangePlaces$Country", "readPerson", "(LChangePlaces$Tape;)Z"⟩ ∈ qx_tbl := qx_tp 10 rfl rfl
set_option maxRecDepth 100000 in
theorem p_11 : Cond.selects "ChangePlaces$Country" ⟨"ChangePlaces$Country", "readWish", "(LChangePlaces$Tape;)Z"⟩ ⟨"ChangePlaces$Country", "readWish", "(LChangePlaces$Tape;)Z"⟩ ∈ qx_tbl := qx_tp 11 rfl rfl
set_option maxRecDepth 100000 in
theorem p_12 : Cond.selects "ChangePlaces$Country" ⟨"ChangePlaces$Country", "readBench", "(LChangePlaces$Tape;)Z"⟩ ⟨"ChangePlaces$Country", "readBench", "(LChangePlaces$Tape;)Z"⟩ ∈ qx_tbl := qx_tp 12 rfl rfl
set_option maxRecDepth 100000 in
theorem p_13 : Cond.selects "ChangePlaces$Country" ⟨"ChangePlaces$Country", "readCall", "(LChangePlaces$Tape;)Z"⟩ ⟨"ChangePlaces$Country", "readCall", "(LChangePlaces$Tape;)Z"⟩ ∈ qx_tbl := qx_tp 13 rfl rfl
set_option maxRecDepth 100000 in
theorem p_14 : Cond.selects "ChangePlaces" ⟨"ChangePlaces", "stir", "()V"⟩ ⟨"ChangePlaces", "stir", "()V"⟩ ∈ qx_tbl := qx_tp 14 rfl rfl
set_option maxRecDepth 100000 in
theorem p_15 : Cond.selects "ChangePlaces$Rule" ⟨"ChangePlaces$Rule", "readClause", "(LChangePlaces$Tape;Z)Z"⟩ ⟨"ChangePlaces$Rule", "readClause", "(LChangePlaces$Tape;Z)Z"⟩ ∈ qx_tbl := qx_tp 15 rfl rfl
set_option maxRecDepth 100000 in
theorem p_16 : Cond.selects "ChangePlaces$Rule" ⟨"ChangePlaces$Rule", "readSum", "(LChangePlaces$Tape;)Z"⟩ ⟨"ChangePlaces$Rule", "readSum", "(LChangePlaces$Tape;)Z"⟩ ∈ qx_tbl := qx_tp 16 rfl rfl
set_option maxRecDepth 100000 in
theorem p_17 : Cond.selects "ChangePlaces$Rule" ⟨"ChangePlaces$Rule", "readValue", "(LChangePlaces$Tape;)Z"⟩ ⟨"ChangePlaces$Rule", "readValue", "(LChangePlaces$Tape;)Z"⟩ ∈ qx_tbl := qx_tp 17 rfl rfl
set_option maxRecDepth 100000 in
theorem p_18 : Cond.selects "ChangePlaces$Rule" ⟨"ChangePlaces$Rule", "step", "(I)V"⟩ ⟨"ChangePlaces$Rule", "step", "(I)V"⟩ ∈ qx_tbl := qx_tp 18 rfl rfl
set_option maxRecDepth 100000 in
theorem p_19 : Cond.selects "ChangePlaces$Rule" ⟨"ChangePlaces$Rule", "readTest", "(LChangePlaces$Tape;I)Z"⟩ ⟨"ChangePlaces$Rule", "readTest", "(LChangePlaces$Tape;I)Z"⟩ ∈ qx_tbl := qx_tp 19 rfl rfl
set_option maxRecDepth 100000 in
theorem p_20 : Cond.selects "ChangePlaces$Rule" ⟨"ChangePlaces$Rule", "readFact", "(LChangePlaces$Tape;I)Z"⟩ ⟨"ChangePlaces$Rule", "readFact", "(LChangePlaces$Tape;I)Z"⟩ ∈ qx_tbl := qx_tp 20 rfl rfl
set_option maxRecDepth 100000 in
theorem p_21 : Cond.selects "ChangePlaces$Rule" ⟨"ChangePlaces$Rule", "readBracket", "(LChangePlaces$Tape;I)Z"⟩ ⟨"ChangePlaces$Rule", "readBracket", "(LChangePlaces$Tape;I)Z"⟩ ∈ qx_tbl := qx_tp 21 rfl rfl
set_option maxRecDepth 100000 in
theorem p_22 : Cond.selects "ChangePlaces$Rule" ⟨"ChangePlaces$Rule", "readNot", "(LChangePlaces$Tape;I)Z"⟩ ⟨"ChangePlaces$Rule", "readNot", "(LChangePlaces$Tape;I)Z"⟩ ∈ qx_tbl := qx_tp 22 rfl rfl
set_option maxRecDepth 100000 in
theorem p_23 : Cond.selects "ChangePlaces" ⟨"ChangePlaces", "isPerson", "(I)Z"⟩ ⟨"ChangePlaces", "isPerson", "(I)Z"⟩ ∈ qx_tbl := qx_tp 23 rfl rfl
set_option maxRecDepth 100000 in
theorem p_24 : Cond.selects "ChangePlaces$Laws" ⟨"ChangePlaces$Laws", "tellWords", "(IIIII)V"⟩ ⟨"ChangePlaces$Laws", "tellWords", "(IIIII)V"⟩ ∈ qx_tbl := qx_tp 24 rfl rfl
set_option maxRecDepth 100000 in
theorem p_25 : Cond.selects "ChangePlaces$Laws" ⟨"ChangePlaces$Laws", "workOut", "(II)J"⟩ ⟨"ChangePlaces$Laws", "workOut", "(II)J"⟩ ∈ qx_tbl := qx_tp 25 rfl rfl
set_option maxRecDepth 100000 in
theorem p_26 : Cond.selects "ChangePlaces" ⟨"ChangePlaces", "isPlace", "(I)Z"⟩ ⟨"ChangePlaces", "isPlace", "(I)Z"⟩ ∈ qx_tbl := qx_tp 26 rfl rfl
set_option maxRecDepth 100000 in
theorem p_27 : Cond.selects "ChangePlaces" ⟨"ChangePlaces", "whoIsAt", "(I)I"⟩ ⟨"ChangePlaces", "whoIsAt", "(I)I"⟩ ∈ qx_tbl := qx_tp 27 rfl rfl
set_option maxRecDepth 100000 in
theorem p_28 : Cond.selects "ChangePlaces" ⟨"ChangePlaces", "whoWouldComeTo", "(I)I"⟩ ⟨"ChangePlaces", "whoWouldComeTo", "(I)I"⟩ ∈ qx_tbl := qx_tp 28 rfl rfl
set_option maxRecDepth 100000 in
theorem p_29 : Cond.selects "ChangePlaces" ⟨"ChangePlaces", "whoWouldLeave", "(I)I"⟩ ⟨"ChangePlaces", "whoWouldLeave", "(I)I"⟩ ∈ qx_tbl := qx_tp 29 rfl rfl
set_option maxRecDepth 100000 in
theorem p_30 : Cond.selects "ChangePlaces$Laws" ⟨"ChangePlaces$Laws", "brokenBy", "(IIIII)I"⟩ ⟨"ChangePlaces$Laws", "brokenBy", "(IIIII)I"⟩ ∈ qx_tbl := qx_tp 30 rfl rfl
set_option maxRecDepth 100000 in
theorem p_31 : Cond.selects "ChangePlaces" ⟨"ChangePlaces", "hasCountry", "()Z"⟩ ⟨"ChangePlaces", "hasCountry", "()Z"⟩ ∈ qx_tbl := qx_tp 31 rfl rfl
set_option maxRecDepth 100000 in
theorem p_32 : Cond.selects "ChangePlaces$Standing" ⟨"ChangePlaces$Standing", "findRing", "(I[I[I)I"⟩ ⟨"ChangePlaces$Standing", "findRing", "(I[I[I)I"⟩ ∈ qx_tbl := qx_tp 32 rfl rfl
set_option maxRecDepth 100000 in
theorem p_33 : Cond.selects "ChangePlaces$Standing" ⟨"ChangePlaces$Standing", "countSteps", "(II[I)V"⟩ ⟨"ChangePlaces$Standing", "countSteps", "(II[I)V"⟩ ∈ qx_tbl := qx_tp 33 rfl rfl
set_option maxRecDepth 100000 in
theorem p_34 : Cond.selects "ChangePlaces$Standing" ⟨"ChangePlaces$Standing", "isDebt", "(II)Z"⟩ ⟨"ChangePlaces$Standing", "isDebt", "(II)Z"⟩ ∈ qx_tbl := qx_tp 34 rfl rfl
set_option maxRecDepth 100000 in
theorem p_35 : Cond.selects "ChangePlaces$Standing" ⟨"ChangePlaces$Standing", "ringLength", "(II[I)I"⟩ ⟨"ChangePlaces$Standing", "ringLength", "(II[I)I"⟩ ∈ qx_tbl := qx_tp 35 rfl rfl
set_option maxRecDepth 100000 in
theorem p_36 : Cond.selects "ChangePlaces$Standing" ⟨"ChangePlaces$Standing", "walkRing", "(II[I[II)V"⟩ ⟨"ChangePlaces$Standing", "walkRing", "(II[I[II)V"⟩ ∈ qx_tbl := qx_tp 36 rfl rfl
set_option maxRecDepth 100000 in
theorem p_37 : Cond.selects "ChangePlaces$Standing" ⟨"ChangePlaces$Standing", "strikeRow", "([II)I"⟩ ⟨"ChangePlaces$Standing", "strikeRow", "([II)I"⟩ ∈ qx_tbl := qx_tp 37 rfl rfl
set_option maxRecDepth 100000 in
theorem p_38 : Cond.selects "ChangePlaces" ⟨"ChangePlaces", "judgeBook", "()I"⟩ ⟨"ChangePlaces", "judgeBook", "()I"⟩ ∈ qx_tbl := qx_tp 38 rfl rfl
set_option maxRecDepth 100000 in
theorem p_39 : Cond.selects "ChangePlaces" ⟨"ChangePlaces", "layOutBook", "()I"⟩ ⟨"ChangePlaces", "layOutBook", "()I"⟩ ∈ qx_tbl := qx_tp 39 rfl rfl
set_option maxRecDepth 100000 in
theorem p_40 : Cond.selects "ChangePlaces" ⟨"ChangePlaces", "likesNow", "()[I"⟩ ⟨"ChangePlaces", "likesNow", "()[I"⟩ ∈ qx_tbl := qx_tp 40 rfl rfl
set_option maxRecDepth 100000 in
theorem p_41 : Cond.selects "ChangePlaces$Most" ⟨"ChangePlaces$Most", "countGains", "([I)V"⟩ ⟨"ChangePlaces$Most", "countGains", "([I)V"⟩ ∈ qx_tbl := qx_tp 41 rfl rfl
set_option maxRecDepth 100000 in
theorem p_42 : Cond.selects "ChangePlaces$Most" ⟨"ChangePlaces$Most", "findUnbarred", "(I)V"⟩ ⟨"ChangePlaces$Most", "findUnbarred", "(I)V"⟩ ∈ qx_tbl := qx_tp 42 rfl rfl
set_option maxRecDepth 100000 in
theorem p_43 : Cond.selects "ChangePlaces$Most" ⟨"ChangePlaces$Most", "findOpen", "(I)V"⟩ ⟨"ChangePlaces$Most", "findOpen", "(I)V"⟩ ∈ qx_tbl := qx_tp 43 rfl rfl
set_option maxRecDepth 100000 in
theorem p_44 : Cond.selects "ChangePlaces$Most" ⟨"ChangePlaces$Most", "findRings", "()V"⟩ ⟨"ChangePlaces$Most", "findRings", "()V"⟩ ∈ qx_tbl := qx_tp 44 rfl rfl
set_option maxRecDepth 100000 in
theorem p_45 : Cond.selects "ChangePlaces$Most" ⟨"ChangePlaces$Most", "extend", "(IIII)V"⟩ ⟨"ChangePlaces$Most", "extend", "(IIII)V"⟩ ∈ qx_tbl := qx_tp 45 rfl rfl
set_option maxRecDepth 100000 in
theorem p_46 : Cond.selects "ChangePlaces$Most" ⟨"ChangePlaces$Most", "isOpen", "(III)Z"⟩ ⟨"ChangePlaces$Most", "isOpen", "(III)Z"⟩ ∈ qx_tbl := qx_tp 46 rfl rfl
set_option maxRecDepth 100000 in
theorem p_47 : Cond.selects "ChangePlaces$Most" ⟨"ChangePlaces$Most", "note", "(II)V"⟩ ⟨"ChangePlaces$Most", "note", "(II)V"⟩ ∈ qx_tbl := qx_tp 47 rfl rfl
set_option maxRecDepth 100000 in
theorem p_48 : Cond.selects "ChangePlaces$Most" ⟨"ChangePlaces$Most", "findBest", "()V"⟩ ⟨"ChangePlaces$Most", "findBest", "()V"⟩ ∈ qx_tbl := qx_tp 48 rfl rfl
set_option maxRecDepth 100000 in
theorem p_49 : Cond.selects "ChangePlaces$Most" ⟨"ChangePlaces$Most", "bestOf", "(II)I"⟩ ⟨"ChangePlaces$Most", "bestOf", "(II)I"⟩ ∈ qx_tbl := qx_tp 49 rfl rfl
set_option maxRecDepth 100000 in
theorem p_50 : Cond.selects "ChangePlaces$Most" ⟨"ChangePlaces$Most", "choose", "()V"⟩ ⟨"ChangePlaces$Most", "choose", "()V"⟩ ∈ qx_tbl := qx_tp 50 rfl rfl
set_option maxRecDepth 100000 in
theorem p_51 : Cond.selects "ChangePlaces$Most" ⟨"ChangePlaces$Most", "firstBest", "(III)I"⟩ ⟨"ChangePlaces$Most", "firstBest", "(III)I"⟩ ∈ qx_tbl := qx_tp 51 rfl rfl
set_option maxRecDepth 100000 in
theorem p_52 : Cond.selects "ChangePlaces$Most" ⟨"ChangePlaces$Most", "rowScore", "(II)I"⟩ ⟨"ChangePlaces$Most", "rowScore", "(II)I"⟩ ∈ qx_tbl := qx_tp 52 rfl rfl
set_option maxRecDepth 100000 in
theorem p_53 : Cond.selects "ChangePlaces$Most" ⟨"ChangePlaces$Most", "takeRow", "(I)V"⟩ ⟨"ChangePlaces$Most", "takeRow", "(I)V"⟩ ∈ qx_tbl := qx_tp 53 rfl rfl
set_option maxRecDepth 100000 in
theorem p_54 : Cond.selects "ChangePlaces$Core" ⟨"ChangePlaces$Core", "pointsAt", "(II[I)I"⟩ ⟨"ChangePlaces$Core", "pointsAt", "(II[I)I"⟩ ∈ qx_tbl := qx_tp 54 rfl rfl
set_option maxRecDepth 100000 in
theorem p_55 : Cond.selects "ChangePlaces$Core" ⟨"ChangePlaces$Core", "comesBack", "(I)Z"⟩ ⟨"ChangePlaces$Core", "comesBack", "(I)Z"⟩ ∈ qx_tbl := qx_tp 55 rfl rfl
set_option maxRecDepth 100000 in
theorem p_56 : Cond.selects "ChangePlaces" ⟨"ChangePlaces", "searchFromNow", "()LChangePlaces$Search;"⟩ ⟨"ChangePlaces", "searchFromNow", "()LChangePlaces$Search;"⟩ ∈ qx_tbl := qx_tp 56 rfl rfl
set_option maxRecDepth 100000 in
theorem p_57 : Cond.selects "ChangePlaces$Search" ⟨"ChangePlaces$Search", "add", "(III)V"⟩ ⟨"ChangePlaces$Search", "add", "(III)V"⟩ ∈ qx_tbl := qx_tp 57 rfl rfl
set_option maxRecDepth 100000 in
theorem p_58 : Cond.selects "ChangePlaces$Search" ⟨"ChangePlaces$Search", "slotOf", "(I)I"⟩ ⟨"ChangePlaces$Search", "slotOf", "(I)I"⟩ ∈ qx_tbl := qx_tp 58 rfl rfl
set_option maxRecDepth 100000 in
theorem p_59 : Cond.selects "ChangePlaces" ⟨"ChangePlaces", "goal", "(II)[I"⟩ ⟨"ChangePlaces", "goal", "(II)[I"⟩ ∈ qx_tbl := qx_tp 59 rfl rfl
set_option maxRecDepth 100000 in
theorem p_60 : Cond.selects "ChangePlaces$Search" ⟨"ChangePlaces$Search", "grow", "()Z"⟩ ⟨"ChangePlaces$Search", "grow", "()Z"⟩ ∈ qx_tbl := qx_tp 60 rfl rfl
set_option maxRecDepth 100000 in
theorem p_61 : Cond.selects "ChangePlaces$Search" ⟨"ChangePlaces$Search", "allFound", "(I[I)Z"⟩ ⟨"ChangePlaces$Search", "allFound", "(I[I)Z"⟩ ∈ qx_tbl := qx_tp 61 rfl rfl
set_option maxRecDepth 100000 in
theorem p_62 : Cond.selects "ChangePlaces" ⟨"ChangePlaces", "searchFromHome", "()LChangePlaces$Search;"⟩ ⟨"ChangePlaces", "searchFromHome", "()LChangePlaces$Search;"⟩ ∈ qx_tbl := qx_tp 62 rfl rfl
set_option maxRecDepth 100000 in
theorem p_63 : Cond.selects "ChangePlaces" ⟨"ChangePlaces", "findServers", "()V"⟩ ⟨"ChangePlaces", "findServers", "()V"⟩ ∈ qx_tbl := qx_tp 63 rfl rfl
set_option maxRecDepth 100000 in
theorem p_64 : Cond.selects "ChangePlaces" ⟨"ChangePlaces", "fewestDoctors", "()I"⟩ ⟨"ChangePlaces", "fewestDoctors", "()I"⟩ ∈ qx_tbl := qx_tp 64 rfl rfl
set_option maxRecDepth 100000 in
theorem p_65 : Cond.selects "ChangePlaces" ⟨"ChangePlaces", "servedBy", "(I)I"⟩ ⟨"ChangePlaces", "servedBy", "(I)I"⟩ ∈ qx_tbl := qx_tp 65 rfl rfl
set_option maxRecDepth 100000 in
theorem p_66 : Cond.selects "ChangePlaces" ⟨"ChangePlaces", "bestDoctors", "(I)I"⟩ ⟨"ChangePlaces", "bestDoctors", "(I)I"⟩ ∈ qx_tbl := qx_tp 66 rfl rfl
set_option maxRecDepth 100000 in
theorem p_67 : Cond.selects "ChangePlaces" ⟨"ChangePlaces", "wayOf", "(I)LChangePlaces$Way;"⟩ ⟨"ChangePlaces", "wayOf", "(I)LChangePlaces$Way;"⟩ ∈ qx_tbl := qx_tp 67 rfl rfl
set_option maxRecDepth 100000 in
theorem p_68 : Cond.selects "ChangePlaces" ⟨"ChangePlaces", "liveYear", "(II)I"⟩ ⟨"ChangePlaces", "liveYear", "(II)I"⟩ ∈ qx_tbl := qx_tp 68 rfl rfl
set_option maxRecDepth 100000 in
theorem p_69 : Cond.selects "ChangePlaces" ⟨"ChangePlaces", "drawnPerson", "()I"⟩ ⟨"ChangePlaces", "drawnPerson", "()I"⟩ ∈ qx_tbl := qx_tp 69 rfl rfl
set_option maxRecDepth 100000 in
theorem p_70 : Cond.selects "ChangePlaces" ⟨"ChangePlaces", "contentOnTrial", "()I"⟩ ⟨"ChangePlaces", "contentOnTrial", "()I"⟩ ∈ qx_tbl := qx_tp 70 rfl rfl
set_option maxRecDepth 100000 in
theorem p_71 : Cond.selects "ChangePlacesModel" ⟨"ChangePlacesModel", "four", "(I)V"⟩ ⟨"ChangePlacesModel", "four", "(I)V"⟩ ∈ qx_tbl := qx_tp 71 rfl rfl
set_option maxRecDepth 100000 in
theorem p_72 : Cond.selects "ChangePlacesModel" ⟨"ChangePlacesModel", "readsAll", "()Z"⟩ ⟨"ChangePlacesModel", "readsAll", "()Z"⟩ ∈ qx_tbl := qx_tp 72 rfl rfl
set_option maxRecDepth 100000 in
theorem p_73 : Cond.selects "ChangePlacesModel" ⟨"ChangePlacesModel", "clauseHere", "()Z"⟩ ⟨"ChangePlacesModel", "clauseHere", "()Z"⟩ ∈ qx_tbl := qx_tp 73 rfl rfl
set_option maxRecDepth 100000 in
theorem p_74 : Cond.selects "ChangePlacesModel" ⟨"ChangePlacesModel", "see", "()I"⟩ ⟨"ChangePlacesModel", "see", "()I"⟩ ∈ qx_tbl := qx_tp 74 rfl rfl
set_option maxRecDepth 100000 in
theorem p_75 : Cond.selects "ChangePlacesModel" ⟨"ChangePlacesModel", "isCountryWord", "()Z"⟩ ⟨"ChangePlacesModel", "isCountryWord", "()Z"⟩ ∈ qx_tbl := qx_tp 75 rfl rfl
set_option maxRecDepth 100000 in
theorem p_76 : Cond.selects "ChangePlacesModel" ⟨"ChangePlacesModel", "isWord", "(J)Z"⟩ ⟨"ChangePlacesModel", "isWord", "(J)Z"⟩ ∈ qx_tbl := qx_tp 76 rfl rfl
set_option maxRecDepth 100000 in
theorem p_77 : Cond.selects "ChangePlacesModel" ⟨"ChangePlacesModel", "isLetter", "(I)Z"⟩ ⟨"ChangePlacesModel", "isLetter", "(I)Z"⟩ ∈ qx_tbl := qx_tp 77 rfl rfl
set_option maxRecDepth 100000 in
theorem p_78 : Cond.selects "ChangePlacesModel" ⟨"ChangePlacesModel", "fails", "(II)Z"⟩ ⟨"ChangePlacesModel", "fails", "(II)Z"⟩ ∈ qx_tbl := qx_tp 78 rfl rfl
set_option maxRecDepth 100000 in
theorem p_79 : Cond.selects "ChangePlacesModel" ⟨"ChangePlacesModel", "countryLineHere", "(I)Z"⟩ ⟨"ChangePlacesModel", "countryLineHere", "(I)Z"⟩ ∈ qx_tbl := qx_tp 79 rfl rfl
set_option maxRecDepth 100000 in
theorem p_80 : Cond.selects "ChangePlacesModel" ⟨"ChangePlacesModel", "arePlacesHere", "(I)Z"⟩ ⟨"ChangePlacesModel", "arePlacesHere", "(I)Z"⟩ ∈ qx_tbl := qx_tp 80 rfl rfl
set_option maxRecDepth 100000 in
theorem p_81 : Cond.selects "ChangePlacesModel" ⟨"ChangePlacesModel", "passWord", "()V"⟩ ⟨"ChangePlacesModel", "passWord", "()V"⟩ ∈ qx_tbl := qx_tp 81 rfl rfl
set_option maxRecDepth 100000 in
theorem p_82 : Cond.selects "ChangePlacesModel" ⟨"ChangePlacesModel", "cellHere", "(III)Z"⟩ ⟨"ChangePlacesModel", "cellHere", "(III)Z"⟩ ∈ qx_tbl := qx_tp 82 rfl rfl
set_option maxRecDepth 100000 in
theorem p_83 : Cond.selects "ChangePlacesModel" ⟨"ChangePlacesModel", "numberHere", "(II)Z"⟩ ⟨"ChangePlacesModel", "numberHere", "(II)Z"⟩ ∈ qx_tbl := qx_tp 83 rfl rfl
set_option maxRecDepth 100000 in
theorem p_84 : Cond.selects "ChangePlacesModel" ⟨"ChangePlacesModel", "isDigit", "(I)Z"⟩ ⟨"ChangePlacesModel", "isDigit", "(I)Z"⟩ ∈ qx_tbl := qx_tp 84 rfl rfl
set_option maxRecDepth 100000 in
theorem p_85 : Cond.selects "ChangePlacesModel" ⟨"ChangePlacesModel", "isPersonHere", "(I)Z"⟩ ⟨"ChangePlacesModel", "isPersonHere", "(I)Z"⟩ ∈ qx_tbl := qx_tp 85 rfl rfl
set_option maxRecDepth 100000 in
theorem p_86 : Cond.selects "ChangePlacesModel" ⟨"ChangePlacesModel", "isWishHere", "()Z"⟩ ⟨"ChangePlacesModel", "isWishHere", "()Z"⟩ ∈ qx_tbl := qx_tp 86 rfl rfl
set_option maxRecDepth 100000 in
theorem p_87 : Cond.selects "ChangePlacesModel" ⟨"ChangePlacesModel", "isBenchHere", "()Z"⟩ ⟨"ChangePlacesModel", "isBenchHere", "()Z"⟩ ∈ qx_tbl := qx_tp 87 rfl rfl
set_option maxRecDepth 100000 in
theorem p_88 : Cond.selects "ChangePlacesModel" ⟨"ChangePlacesModel", "isCallHere", "(I)Z"⟩ ⟨"ChangePlacesModel", "isCallHere", "(I)Z"⟩ ∈ qx_tbl := qx_tp 88 rfl rfl
set_option maxRecDepth 100000 in
theorem p_89 : Cond.selects "ChangePlacesModel" ⟨"ChangePlacesModel", "isDoingHere", "(I)Z"⟩ ⟨"ChangePlacesModel", "isDoingHere", "(I)Z"⟩ ∈ qx_tbl := qx_tp 89 rfl rfl
set_option maxRecDepth 100000 in
theorem p_90 : Cond.selects "ChangePlacesModel" ⟨"ChangePlacesModel", "sum", "()Z"⟩ ⟨"ChangePlacesModel", "sum", "()Z"⟩ ∈ qx_tbl := qx_tp 90 rfl rfl
set_option maxRecDepth 100000 in
theorem p_91 : Cond.selects "ChangePlacesModel" ⟨"ChangePlacesModel", "term", "()Z"⟩ ⟨"ChangePlacesModel", "term", "()Z"⟩ ∈ qx_tbl := qx_tp 91 rfl rfl
set_option maxRecDepth 100000 in
theorem p_92 : Cond.selects "ChangePlacesModel" ⟨"ChangePlacesModel", "value", "()Z"⟩ ⟨"ChangePlacesModel", "value", "()Z"⟩ ∈ qx_tbl := qx_tp 92 rfl rfl
set_option maxRecDepth 100000 in
theorem p_93 : Cond.selects "ChangePlacesModel" ⟨"ChangePlacesModel", "makes", "(I)Z"⟩ ⟨"ChangePlacesModel", "makes", "(I)Z"⟩ ∈ qx_tbl := qx_tp 93 rfl rfl
set_option maxRecDepth 100000 in
theorem p_94 : Cond.selects "ChangePlacesModel" ⟨"ChangePlacesModel", "puts", "(II)V"⟩ ⟨"ChangePlacesModel", "puts", "(II)V"⟩ ∈ qx_tbl := qx_tp 94 rfl rfl
set_option maxRecDepth 100000 in
theorem p_95 : Cond.selects "ChangePlacesModel" ⟨"ChangePlacesModel", "wordHere", "()I"⟩ ⟨"ChangePlacesModel", "wordHere", "()I"⟩ ∈ qx_tbl := qx_tp 95 rfl rfl
set_option maxRecDepth 100000 in
theorem p_96 : Cond.selects "ChangePlacesModel" ⟨"ChangePlacesModel", "takesWord", "(J)Z"⟩ ⟨"ChangePlacesModel", "takesWord", "(J)Z"⟩ ∈ qx_tbl := qx_tp 96 rfl rfl
set_option maxRecDepth 100000 in
theorem p_97 : Cond.selects "ChangePlacesModel" ⟨"ChangePlacesModel", "tested", "()Z"⟩ ⟨"ChangePlacesModel", "tested", "()Z"⟩ ∈ qx_tbl := qx_tp 97 rfl rfl
set_option maxRecDepth 100000 in
theorem p_98 : Cond.selects "ChangePlacesModel" ⟨"ChangePlacesModel", "fact", "()Z"⟩ ⟨"ChangePlacesModel", "fact", "()Z"⟩ ∈ qx_tbl := qx_tp 98 rfl rfl
set_option maxRecDepth 100000 in
theorem p_99 : Cond.selects "ChangePlacesModel" ⟨"ChangePlacesModel", "opens", "(I)Z"⟩ ⟨"ChangePlacesModel", "opens", "(I)Z"⟩ ∈ qx_tbl := qx_tp 99 rfl rfl
set_option maxRecDepth 100000 in
theorem p_100 : Cond.selects "ChangePlacesModel" ⟨"ChangePlacesModel", "compare", "()Z"⟩ ⟨"ChangePlacesModel", "compare", "()Z"⟩ ∈ qx_tbl := qx_tp 100 rfl rfl
set_option maxRecDepth 100000 in
theorem p_101 : Cond.selects "ChangePlacesModel" ⟨"ChangePlacesModel", "closes", "()V"⟩ ⟨"ChangePlacesModel", "closes", "()V"⟩ ∈ qx_tbl := qx_tp 101 rfl rfl
set_option maxRecDepth 100000 in
theorem p_102 : Cond.selects "ChangePlacesModel" ⟨"ChangePlacesModel", "settles", "(I)V"⟩ ⟨"ChangePlacesModel", "settles", "(I)V"⟩ ∈ qx_tbl := qx_tp 102 rfl rfl
set_option maxRecDepth 100000 in
theorem p_103 : Cond.selects "ChangePlacesModel" ⟨"ChangePlacesModel", "isInside", "()Z"⟩ ⟨"ChangePlacesModel", "isInside", "()Z"⟩ ∈ qx_tbl := qx_tp 103 rfl rfl
set_option maxRecDepth 100000 in
theorem p_104 : Cond.selects "ChangePlacesModel" ⟨"ChangePlacesModel", "isRule", "(I)Z"⟩ ⟨"ChangePlacesModel", "isRule", "(I)Z"⟩ ∈ qx_tbl := qx_tp 104 rfl rfl
set_option maxRecDepth 100000 in
theorem p_105 : Cond.selects "ChangePlacesModel" ⟨"ChangePlacesModel", "isPerson", "(I)Z"⟩ ⟨"ChangePlacesModel", "isPerson", "(I)Z"⟩ ∈ qx_tbl := qx_tp 105 rfl rfl
set_option maxRecDepth 100000 in
theorem p_106 : Cond.selects "ChangePlacesModel" ⟨"ChangePlacesModel", "isPlace", "(I)Z"⟩ ⟨"ChangePlacesModel", "isPlace", "(I)Z"⟩ ∈ qx_tbl := qx_tp 106 rfl rfl
set_option maxRecDepth 100000 in
theorem p_107 : Cond.selects "ChangePlacesModel" ⟨"ChangePlacesModel", "likes", "(II)I"⟩ ⟨"ChangePlacesModel", "likes", "(II)I"⟩ ∈ qx_tbl := qx_tp 107 rfl rfl
set_option maxRecDepth 100000 in
theorem p_108 : Cond.selects "ChangePlacesModel" ⟨"ChangePlacesModel", "wishOf", "(II)I"⟩ ⟨"ChangePlacesModel", "wishOf", "(II)I"⟩ ∈ qx_tbl := qx_tp 108 rfl rfl
set_option maxRecDepth 100000 in
theorem p_109 : Cond.selects "ChangePlacesModel" ⟨"ChangePlacesModel", "words", "(IIII)V"⟩ ⟨"ChangePlacesModel", "words", "(IIII)V"⟩ ∈ qx_tbl := qx_tp 109 rfl rfl
set_option maxRecDepth 100000 in
theorem p_110 : Cond.selects "ChangePlacesModel" ⟨"ChangePlacesModel", "personOf", "(II)I"⟩ ⟨"ChangePlacesModel", "personOf", "(II)I"⟩ ∈ qx_tbl := qx_tp 110 rfl rfl
set_option maxRecDepth 100000 in
theorem p_111 : Cond.selects "ChangePlacesModel" ⟨"ChangePlacesModel", "at", "(I)I"⟩ ⟨"ChangePlacesModel", "at", "(I)I"⟩ ∈ qx_tbl := qx_tp 111 rfl rfl
set_option maxRecDepth 100000 in
theorem p_112 : Cond.selects "ChangePlacesModel" ⟨"ChangePlacesModel", "owesInAll", "(I)I"⟩ ⟨"ChangePlacesModel", "owesInAll", "(I)I"⟩ ∈ qx_tbl := qx_tp 112 rfl rfl
set_option maxRecDepth 100000 in
theorem p_113 : Cond.selects "ChangePlacesModel" ⟨"ChangePlacesModel", "oweOf", "(II)I"⟩ ⟨"ChangePlacesModel", "oweOf", "(II)I"⟩ ∈ qx_tbl := qx_tp 113 rfl rfl
set_option maxRecDepth 100000 in
theorem p_114 : Cond.selects "ChangePlacesModel" ⟨"ChangePlacesModel", "holds", "(II)Z"⟩ ⟨"ChangePlacesModel", "holds", "(II)Z"⟩ ∈ qx_tbl := qx_tp 114 rfl rfl
set_option maxRecDepth 100000 in
theorem p_115 : Cond.selects "ChangePlacesModel" ⟨"ChangePlacesModel", "reckons", "(III)J"⟩ ⟨"ChangePlacesModel", "reckons", "(III)J"⟩ ∈ qx_tbl := qx_tp 115 rfl rfl
set_option maxRecDepth 100000 in
theorem p_116 : Cond.selects "ChangePlacesModel" ⟨"ChangePlacesModel", "push", "(J)V"⟩ ⟨"ChangePlacesModel", "push", "(J)V"⟩ ∈ qx_tbl := qx_tp 116 rfl rfl
set_option maxRecDepth 100000 in
theorem p_117 : Cond.selects "ChangePlacesModel" ⟨"ChangePlacesModel", "pop", "()J"⟩ ⟨"ChangePlacesModel", "pop", "()J"⟩ ∈ qx_tbl := qx_tp 117 rfl rfl
set_option maxRecDepth 100000 in
theorem p_118 : Cond.selects "ChangePlacesModel" ⟨"ChangePlacesModel", "owedInAll", "(I)I"⟩ ⟨"ChangePlacesModel", "owedInAll", "(I)I"⟩ ∈ qx_tbl := qx_tp 118 rfl rfl
set_option maxRecDepth 100000 in
theorem p_119 : Cond.selects "ChangePlacesModel" ⟨"ChangePlacesModel", "wishesAway", "(I)Z"⟩ ⟨"ChangePlacesModel", "wishesAway", "(I)Z"⟩ ∈ qx_tbl := qx_tp 119 rfl rfl
set_option maxRecDepth 100000 in
theorem p_120 : Cond.selects "ChangePlacesModel" ⟨"ChangePlacesModel", "callsAt", "(I)I"⟩ ⟨"ChangePlacesModel", "callsAt", "(I)I"⟩ ∈ qx_tbl := qx_tp 120 rfl rfl
set_option maxRecDepth 100000 in
theorem p_121 : Cond.selects "ChangePlacesModel" ⟨"ChangePlacesModel", "takesCalled", "()V"⟩ ⟨"ChangePlacesModel", "takesCalled", "()V"⟩ ∈ qx_tbl := qx_tp 121 rfl rfl
set_option maxRecDepth 100000 in
theorem p_122 : Cond.selects "ChangePlacesModel" ⟨"ChangePlacesModel", "lawBroken", "()I"⟩ ⟨"ChangePlacesModel", "lawBroken", "()I"⟩ ∈ qx_tbl := qx_tp 122 rfl rfl
set_option maxRecDepth 100000 in
theorem p_123 : Cond.selects "ChangePlacesModel" ⟨"ChangePlacesModel", "brokenBy", "(III)I"⟩ ⟨"ChangePlacesModel", "brokenBy", "(III)I"⟩ ∈ qx_tbl := qx_tp 123 rfl rfl
set_option maxRecDepth 100000 in
theorem p_124 : Cond.selects "ChangePlacesModel" ⟨"ChangePlacesModel", "keepsRing", "()V"⟩ ⟨"ChangePlacesModel", "keepsRing", "()V"⟩ ∈ qx_tbl := qx_tp 124 rfl rfl
set_option maxRecDepth 100000 in
theorem p_125 : Cond.selects "ChangePlacesModel" ⟨"ChangePlacesModel", "changes", "()I"⟩ ⟨"ChangePlacesModel", "changes", "()I"⟩ ∈ qx_tbl := qx_tp 125 rfl rfl
set_option maxRecDepth 100000 in
theorem p_126 : Cond.selects "ChangePlacesModel" ⟨"ChangePlacesModel", "goRound", "()V"⟩ ⟨"ChangePlacesModel", "goRound", "()V"⟩ ∈ qx_tbl := qx_tp 126 rfl rfl
set_option maxRecDepth 100000 in
theorem p_127 : Cond.selects "ChangePlacesModel" ⟨"ChangePlacesModel", "isCountry", "()Z"⟩ ⟨"ChangePlacesModel", "isCountry", "()Z"⟩ ∈ qx_tbl := qx_tp 127 rfl rfl
set_option maxRecDepth 100000 in
theorem p_128 : Cond.selects "ChangePlacesModel" ⟨"ChangePlacesModel", "shortestRing", "()I"⟩ ⟨"ChangePlacesModel", "shortestRing", "()I"⟩ ∈ qx_tbl := qx_tp 128 rfl rfl
set_option maxRecDepth 100000 in
theorem p_129 : Cond.selects "ChangePlacesModel" ⟨"ChangePlacesModel", "findsRing", "(II)Z"⟩ ⟨"ChangePlacesModel", "findsRing", "(II)Z"⟩ ∈ qx_tbl := qx_tp 129 rfl rfl
set_option maxRecDepth 100000 in
theorem p_130 : Cond.selects "ChangePlacesModel" ⟨"ChangePlacesModel", "isInRow", "(II)Z"⟩ ⟨"ChangePlacesModel", "isInRow", "(II)Z"⟩ ∈ qx_tbl := qx_tp 130 rfl rfl
set_option maxRecDepth 100000 in
theorem p_131 : Cond.selects "ChangePlacesModel" ⟨"ChangePlacesModel", "keepsPlaces", "()V"⟩ ⟨"ChangePlacesModel", "keepsPlaces", "()V"⟩ ∈ qx_tbl := qx_tp 131 rfl rfl
set_option maxRecDepth 100000 in
theorem p_132 : Cond.selects "ChangePlacesModel" ⟨"ChangePlacesModel", "judges", "()I"⟩ ⟨"ChangePlacesModel", "judges", "()I"⟩ ∈ qx_tbl := qx_tp 132 rfl rfl
set_option maxRecDepth 100000 in
theorem p_133 : Cond.selects "ChangePlacesModel" ⟨"ChangePlacesModel", "takesBooked", "(I)V"⟩ ⟨"ChangePlacesModel", "takesBooked", "(I)V"⟩ ∈ qx_tbl := qx_tp 133 rfl rfl
set_option maxRecDepth 100000 in
theorem p_134 : Cond.selects "ChangePlacesModel" ⟨"ChangePlacesModel", "putsPlacesBack", "()V"⟩ ⟨"ChangePlacesModel", "putsPlacesBack", "()V"⟩ ∈ qx_tbl := qx_tp 134 rfl rfl
set_option maxRecDepth 100000 in
theorem p_135 : Cond.selects "ChangePlacesModel" ⟨"ChangePlacesModel", "peopleIn", "(I)I"⟩ ⟨"ChangePlacesModel", "peopleIn", "(I)I"⟩ ∈ qx_tbl := qx_tp 135 rfl rfl
set_option maxRecDepth 100000 in
theorem p_136 : Cond.selects "ChangePlacesModel" ⟨"ChangePlacesModel", "canChange", "(II)Z"⟩ ⟨"ChangePlacesModel", "canChange", "(II)Z"⟩ ∈ qx_tbl := qx_tp 136 rfl rfl
set_option maxRecDepth 100000 in
theorem p_137 : Cond.selects "ChangePlacesModel" ⟨"ChangePlacesModel", "takesTwo", "(II)V"⟩ ⟨"ChangePlacesModel", "takesTwo", "(II)V"⟩ ∈ qx_tbl := qx_tp 137 rfl rfl
set_option maxRecDepth 100000 in
theorem p_138 : Cond.selects "ChangePlacesModel" ⟨"ChangePlacesModel", "findsMost", "(I)V"⟩ ⟨"ChangePlacesModel", "findsMost", "(I)V"⟩ ∈ qx_tbl := qx_tp 138 rfl rfl
set_option maxRecDepth 100000 in
theorem p_139 : Cond.selects "ChangePlacesModel" ⟨"ChangePlacesModel", "marks", "(I)V"⟩ ⟨"ChangePlacesModel", "marks", "(I)V"⟩ ∈ qx_tbl := qx_tp 139 rfl rfl
set_option maxRecDepth 100000 in
theorem p_140 : Cond.selects "ChangePlacesModel" ⟨"ChangePlacesModel", "leastOf", "(I)I"⟩ ⟨"ChangePlacesModel", "leastOf", "(I)I"⟩ ∈ qx_tbl := qx_tp 140 rfl rfl
set_option maxRecDepth 100000 in
theorem p_141 : Cond.selects "ChangePlacesModel" ⟨"ChangePlacesModel", "offersFrom", "(III)V"⟩ ⟨"ChangePlacesModel", "offersFrom", "(III)V"⟩ ∈ qx_tbl := qx_tp 141 rfl rfl
set_option maxRecDepth 100000 in
theorem p_142 : Cond.selects "ChangePlacesModel" ⟨"ChangePlacesModel", "takes", "(III)Z"⟩ ⟨"ChangePlacesModel", "takes", "(III)Z"⟩ ∈ qx_tbl := qx_tp 142 rfl rfl
set_option maxRecDepth 100000 in
theorem p_143 : Cond.selects "ChangePlacesModel" ⟨"ChangePlacesModel", "offers", "(IIIII)V"⟩ ⟨"ChangePlacesModel", "offers", "(IIIII)V"⟩ ∈ qx_tbl := qx_tp 143 rfl rfl
set_option maxRecDepth 100000 in
theorem p_144 : Cond.selects "ChangePlacesModel" ⟨"ChangePlacesModel", "offersFour", "(IIII)V"⟩ ⟨"ChangePlacesModel", "offersFour", "(IIII)V"⟩ ∈ qx_tbl := qx_tp 144 rfl rfl
set_option maxRecDepth 100000 in
theorem p_145 : Cond.selects "ChangePlacesModel" ⟨"ChangePlacesModel", "followsMost", "()V"⟩ ⟨"ChangePlacesModel", "followsMost", "()V"⟩ ∈ qx_tbl := qx_tp 145 rfl rfl
set_option maxRecDepth 100000 in
theorem p_146 : Cond.selects "ChangePlacesModel" ⟨"ChangePlacesModel", "findsCore", "()V"⟩ ⟨"ChangePlacesModel", "findsCore", "()V"⟩ ∈ qx_tbl := qx_tp 146 rfl rfl
set_option maxRecDepth 100000 in
theorem p_147 : Cond.selects "ChangePlacesModel" ⟨"ChangePlacesModel", "pointsAt", "(II)I"⟩ ⟨"ChangePlacesModel", "pointsAt", "(II)I"⟩ ∈ qx_tbl := qx_tp 147 rfl rfl
set_option maxRecDepth 100000 in
theorem p_148 : Cond.selects "ChangePlacesModel" ⟨"ChangePlacesModel", "comesBack", "(I)Z"⟩ ⟨"ChangePlacesModel", "comesBack", "(I)Z"⟩ ∈ qx_tbl := qx_tp 148 rfl rfl
set_option maxRecDepth 100000 in
theorem p_149 : Cond.selects "ChangePlacesModel" ⟨"ChangePlacesModel", "comesTo", "(I)I"⟩ ⟨"ChangePlacesModel", "comesTo", "(I)I"⟩ ∈ qx_tbl := qx_tp 149 rfl rfl
set_option maxRecDepth 100000 in
theorem p_150 : Cond.selects "ChangePlacesModel" ⟨"ChangePlacesModel", "searched", "(II)I"⟩ ⟨"ChangePlacesModel", "searched", "(II)I"⟩ ∈ qx_tbl := qx_tp 150 rfl rfl
set_option maxRecDepth 100000 in
theorem p_151 : Cond.selects "ChangePlacesModel" ⟨"ChangePlacesModel", "searches", "(II)I"⟩ ⟨"ChangePlacesModel", "searches", "(II)I"⟩ ∈ qx_tbl := qx_tp 151 rfl rfl
set_option maxRecDepth 100000 in
theorem p_152 : Cond.selects "ChangePlacesModel" ⟨"ChangePlacesModel", "begins", "()V"⟩ ⟨"ChangePlacesModel", "begins", "()V"⟩ ∈ qx_tbl := qx_tp 152 rfl rfl
set_option maxRecDepth 100000 in
theorem p_153 : Cond.selects "ChangePlacesModel" ⟨"ChangePlacesModel", "whereAll", "()I"⟩ ⟨"ChangePlacesModel", "whereAll", "()I"⟩ ∈ qx_tbl := qx_tp 153 rfl rfl
set_option maxRecDepth 100000 in
theorem p_154 : Cond.selects "ChangePlacesModel" ⟨"ChangePlacesModel", "comes", "(III)V"⟩ ⟨"ChangePlacesModel", "comes", "(III)V"⟩ ∈ qx_tbl := qx_tp 154 rfl rfl
set_option maxRecDepth 100000 in
theorem p_155 : Cond.selects "ChangePlacesModel" ⟨"ChangePlacesModel", "slotOf", "(I)I"⟩ ⟨"ChangePlacesModel", "slotOf", "(I)I"⟩ ∈ qx_tbl := qx_tp 155 rfl rfl
set_option maxRecDepth 100000 in
theorem p_156 : Cond.selects "ChangePlacesModel" ⟨"ChangePlacesModel", "stands", "(I)V"⟩ ⟨"ChangePlacesModel", "stands", "(I)V"⟩ ∈ qx_tbl := qx_tp 156 rfl rfl
set_option maxRecDepth 100000 in
theorem p_157 : Cond.selects "ChangePlacesModel" ⟨"ChangePlacesModel", "findsDone", "()I"⟩ ⟨"ChangePlacesModel", "findsDone", "()I"⟩ ∈ qx_tbl := qx_tp 157 rfl rfl
set_option maxRecDepth 100000 in
theorem p_158 : Cond.selects "ChangePlacesModel" ⟨"ChangePlacesModel", "isFound", "(I)Z"⟩ ⟨"ChangePlacesModel", "isFound", "(I)Z"⟩ ∈ qx_tbl := qx_tp 158 rfl rfl
set_option maxRecDepth 100000 in
theorem p_159 : Cond.selects "ChangePlacesModel" ⟨"ChangePlacesModel", "leads", "(I)Z"⟩ ⟨"ChangePlacesModel", "leads", "(I)Z"⟩ ∈ qx_tbl := qx_tp 159 rfl rfl
set_option maxRecDepth 100000 in
theorem p_160 : Cond.selects "ChangePlacesModel" ⟨"ChangePlacesModel", "marksCalls", "()V"⟩ ⟨"ChangePlacesModel", "marksCalls", "()V"⟩ ∈ qx_tbl := qx_tp 160 rfl rfl
set_option maxRecDepth 100000 in
theorem p_161 : Cond.selects "ChangePlacesModel" ⟨"ChangePlacesModel", "serving", "(I)I"⟩ ⟨"ChangePlacesModel", "serving", "(I)I"⟩ ∈ qx_tbl := qx_tp 161 rfl rfl
set_option maxRecDepth 100000 in
theorem p_162 : Cond.selects "ChangePlacesModel" ⟨"ChangePlacesModel", "servedOf", "(I)I"⟩ ⟨"ChangePlacesModel", "servedOf", "(I)I"⟩ ∈ qx_tbl := qx_tp 162 rfl rfl
set_option maxRecDepth 100000 in
theorem p_163 : Cond.selects "ChangePlacesModel" ⟨"ChangePlacesModel", "gainsBy", "(II)I"⟩ ⟨"ChangePlacesModel", "gainsBy", "(II)I"⟩ ∈ qx_tbl := qx_tp 163 rfl rfl
set_option maxRecDepth 100000 in
theorem p_164 : Cond.selects "ChangePlacesModel" ⟨"ChangePlacesModel", "comesBy", "(II)I"⟩ ⟨"ChangePlacesModel", "comesBy", "(II)I"⟩ ∈ qx_tbl := qx_tp 164 rfl rfl
set_option maxRecDepth 100000 in
theorem p_165 : Cond.selects "ChangePlacesModel" ⟨"ChangePlacesModel", "draw", "(I)I"⟩ ⟨"ChangePlacesModel", "draw", "(I)I"⟩ ∈ qx_tbl := qx_tp 165 rfl rfl
theorem x_0 : Cond.selects RX0 yX10_wouldLike yX10_wouldLike ∈ qx_tbl := qx_tx_ 0 rfl rfl
theorem x_1 : Cond.selects RX3 yX10_wouldLike yX10_wouldLike ∈ qx_tbl := qx_tx_ 1 rfl rfl

/-! ===== decode rows of the law ===== -/
theorem dL_law_1616 : decode cL_law 1616 = .ok (.invokevirtual 229, 3) := by decide +kernel
theorem dL_law_1619 : decode cL_law 1619 = .ok (.aload_n 2, 1) := by decide +kernel
theorem dL_law_1620 : decode cL_law 1620 = .ok (.aload_n 0, 1) := by decide +kernel
theorem dL_law_1621 : decode cL_law 1621 = .ok (.iload 4, 2) := by decide +kernel
theorem dL_law_1623 : decode cL_law 1623 = .ok (.iconst 1, 1) := by decide +kernel
theorem dL_law_1624 : decode cL_law 1624 = .ok (.iadd, 1) := by decide +kernel
theorem dL_law_1625 : decode cL_law 1625 = .ok (.iaload, 1) := by decide +kernel
theorem dL_law_1626 : decode cL_law 1626 = .ok (.invokevirtual 232, 3) := by decide +kernel
theorem dL_law_1629 : decode cL_law 1629 = .ok (.if_icmp .eq 192, 3) := by decide +kernel
theorem dL_law_1632 : decode cL_law 1632 = .ok (.iconst 0, 1) := by decide +kernel
theorem dL_law_1633 : decode cL_law 1633 = .ok (.ireturn, 1) := by decide +kernel
theorem dL_law_1634 : decode cL_law 1634 = .ok (.aload_n 1, 1) := by decide +kernel
theorem dL_law_1635 : decode cL_law 1635 = .ok (.aload_n 0, 1) := by decide +kernel
theorem dL_law_1636 : decode cL_law 1636 = .ok (.iload 4, 2) := by decide +kernel
theorem dL_law_1638 : decode cL_law 1638 = .ok (.iconst 1, 1) := by decide +kernel
theorem dL_law_1639 : decode cL_law 1639 = .ok (.iadd, 1) := by decide +kernel
theorem dL_law_1640 : decode cL_law 1640 = .ok (.iaload, 1) := by decide +kernel
theorem dL_law_1641 : decode cL_law 1641 = .ok (.aload_n 0, 1) := by decide +kernel
theorem dL_law_1642 : decode cL_law 1642 = .ok (.iload 4, 2) := by decide +kernel
theorem dL_law_1644 : decode cL_law 1644 = .ok (.iconst 2, 1) := by decide +kernel
theorem dL_law_1645 : decode cL_law 1645 = .ok (.iadd, 1) := by decide +kernel
theorem dL_law_1646 : decode cL_law 1646 = .ok (.iaload, 1) := by decide +kernel
theorem dL_law_1647 : decode cL_law 1647 = .ok (.invokevirtual 233, 3) := by decide +kernel
theorem dL_law_1650 : decode cL_law 1650 = .ok (.aload_n 2, 1) := by decide +kernel
theorem dL_law_1651 : decode cL_law 1651 = .ok (.aload_n 0, 1) := by decide +kernel
theorem dL_law_1652 : decode cL_law 1652 = .ok (.iload 4, 2) := by decide +kernel
theorem dL_law_1654 : decode cL_law 1654 = .ok (.iconst 1, 1) := by decide +kernel
theorem dL_law_1655 : decode cL_law 1655 = .ok (.iadd, 1) := by decide +kernel
theorem dL_law_1656 : decode cL_law 1656 = .ok (.iaload, 1) := by decide +kernel
theorem dL_law_1657 : decode cL_law 1657 = .ok (.aload_n 0, 1) := by decide +kernel
theorem dL_law_1658 : decode cL_law 1658 = .ok (.iload 4, 2) := by decide +kernel
theorem dL_law_1660 : decode cL_law 1660 = .ok (.iconst 2, 1) := by decide +kernel
theorem dL_law_1661 : decode cL_law 1661 = .ok (.iadd, 1) := by decide +kernel
theorem dL_law_1662 : decode cL_law 1662 = .ok (.iaload, 1) := by decide +kernel
theorem dL_law_1663 : decode cL_law 1663 = .ok (.invokevirtual 236, 3) := by decide +kernel
theorem dL_law_1666 : decode cL_law 1666 = .ok (.if_icmp .eq 155, 3) := by decide +kernel
theorem dL_law_1669 : decode cL_law 1669 = .ok (.iconst 0, 1) := by decide +kernel
theorem dL_law_1670 : decode cL_law 1670 = .ok (.ireturn, 1) := by decide +kernel
theorem dL_law_1671 : decode cL_law 1671 = .ok (.aload_n 1, 1) := by decide +kernel
theorem dL_law_1672 : decode cL_law 1672 = .ok (.aload_n 0, 1) := by decide +kernel
theorem dL_law_1673 : decode cL_law 1673 = .ok (.iload 4, 2) := by decide +kernel
theorem dL_law_1675 : decode cL_law 1675 = .ok (.iconst 1, 1) := by decide +kernel
theorem dL_law_1676 : decode cL_law 1676 = .ok (.iadd, 1) := by decide +kernel
theorem dL_law_1677 : decode cL_law 1677 = .ok (.iaload, 1) := by decide +kernel
theorem dL_law_1678 : decode cL_law 1678 = .ok (.aload_n 0, 1) := by decide +kernel
theorem dL_law_1679 : decode cL_law 1679 = .ok (.iload 4, 2) := by decide +kernel
theorem dL_law_1681 : decode cL_law 1681 = .ok (.iconst 2, 1) := by decide +kernel
theorem dL_law_1682 : decode cL_law 1682 = .ok (.iadd, 1) := by decide +kernel
theorem dL_law_1683 : decode cL_law 1683 = .ok (.iaload, 1) := by decide +kernel
theorem dL_law_1684 : decode cL_law 1684 = .ok (.aload_n 0, 1) := by decide +kernel
theorem dL_law_1685 : decode cL_law 1685 = .ok (.iload 4, 2) := by decide +kernel
theorem dL_law_1687 : decode cL_law 1687 = .ok (.iconst 3, 1) := by decide +kernel
theorem dL_law_1688 : decode cL_law 1688 = .ok (.iadd, 1) := by decide +kernel
theorem dL_law_1689 : decode cL_law 1689 = .ok (.iaload, 1) := by decide +kernel
theorem dL_law_1690 : decode cL_law 1690 = .ok (.invokevirtual 237, 3) := by decide +kernel
theorem dL_law_1693 : decode cL_law 1693 = .ok (.aload_n 2, 1) := by decide +kernel
theorem dL_law_1694 : decode cL_law 1694 = .ok (.aload_n 0, 1) := by decide +kernel
theorem dL_law_1695 : decode cL_law 1695 = .ok (.iload 4, 2) := by decide +kernel
theorem dL_law_1697 : decode cL_law 1697 = .ok (.iconst 1, 1) := by decide +kernel
theorem dL_law_1698 : decode cL_law 1698 = .ok (.iadd, 1) := by decide +kernel
theorem dL_law_1699 : decode cL_law 1699 = .ok (.iaload, 1) := by decide +kernel
theorem dL_law_1700 : decode cL_law 1700 = .ok (.aload_n 0, 1) := by decide +kernel
theorem dL_law_1701 : decode cL_law 1701 = .ok (.iload 4, 2) := by decide +kernel
theorem dL_law_1703 : decode cL_law 1703 = .ok (.iconst 2, 1) := by decide +kernel
theorem dL_law_1704 : decode cL_law 1704 = .ok (.iadd, 1) := by decide +kernel
theorem dL_law_1705 : decode cL_law 1705 = .ok (.iaload, 1) := by decide +kernel
theorem dL_law_1706 : decode cL_law 1706 = .ok (.aload_n 0, 1) := by decide +kernel
theorem dL_law_1707 : decode cL_law 1707 = .ok (.iload 4, 2) := by decide +kernel
theorem dL_law_1709 : decode cL_law 1709 = .ok (.iconst 3, 1) := by decide +kernel
theorem dL_law_1710 : decode cL_law 1710 = .ok (.iadd, 1) := by decide +kernel
theorem dL_law_1711 : decode cL_law 1711 = .ok (.iaload, 1) := by decide +kernel
theorem dL_law_1712 : decode cL_law 1712 = .ok (.invokevirtual 240, 3) := by decide +kernel
theorem dL_law_1715 : decode cL_law 1715 = .ok (.if_icmp .eq 106, 3) := by decide +kernel
theorem dL_law_1718 : decode cL_law 1718 = .ok (.iconst 0, 1) := by decide +kernel
theorem dL_law_1719 : decode cL_law 1719 = .ok (.ireturn, 1) := by decide +kernel
theorem dL_law_1720 : decode cL_law 1720 = .ok (.aload_n 1, 1) := by decide +kernel
theorem dL_law_1721 : decode cL_law 1721 = .ok (.aload_n 0, 1) := by decide +kernel
theorem dL_law_1722 : decode cL_law 1722 = .ok (.iload 4, 2) := by decide +kernel
theorem dL_law_1724 : decode cL_law 1724 = .ok (.iconst 1, 1) := by decide +kernel
theorem dL_law_1725 : decode cL_law 1725 = .ok (.iadd, 1) := by decide +kernel
theorem dL_law_1726 : decode cL_law 1726 = .ok (.iaload, 1) := by decide +kernel
theorem dL_law_1727 : decode cL_law 1727 = .ok (.aload_n 0, 1) := by decide +kernel
theorem dL_law_1728 : decode cL_law 1728 = .ok (.iload 4, 2) := by decide +kernel
theorem dL_law_1730 : decode cL_law 1730 = .ok (.iconst 2, 1) := by decide +kernel
theorem dL_law_1731 : decode cL_law 1731 = .ok (.iadd, 1) := by decide +kernel
theorem dL_law_1732 : decode cL_law 1732 = .ok (.iaload, 1) := by decide +kernel
theorem dL_law_1733 : decode cL_law 1733 = .ok (.invokevirtual 241, 3) := by decide +kernel
theorem dL_law_1736 : decode cL_law 1736 = .ok (.aload_n 2, 1) := by decide +kernel
theorem dL_law_1737 : decode cL_law 1737 = .ok (.aload_n 0, 1) := by decide +kernel
theorem dL_law_1738 : decode cL_law 1738 = .ok (.iload 4, 2) := by decide +kernel
theorem dL_law_1740 : decode cL_law 1740 = .ok (.iconst 1, 1) := by decide +kernel
theorem dL_law_1741 : decode cL_law 1741 = .ok (.iadd, 1) := by decide +kernel
theorem dL_law_1742 : decode cL_law 1742 = .ok (.iaload, 1) := by decide +kernel
theorem dL_law_1743 : decode cL_law 1743 = .ok (.aload_n 0, 1) := by decide +kernel
theorem dL_law_1744 : decode cL_law 1744 = .ok (.iload 4, 2) := by decide +kernel
theorem dL_law_1746 : decode cL_law 1746 = .ok (.iconst 2, 1) := by decide +kernel
theorem dL_law_1747 : decode cL_law 1747 = .ok (.iadd, 1) := by decide +kernel
theorem dL_law_1748 : decode cL_law 1748 = .ok (.iaload, 1) := by decide +kernel
theorem dL_law_1749 : decode cL_law 1749 = .ok (.invokevirtual 244, 3) := by decide +kernel
theorem dL_law_1752 : decode cL_law 1752 = .ok (.if_icmp .eq 69, 3) := by decide +kernel
theorem dL_law_1755 : decode cL_law 1755 = .ok (.iconst 0, 1) := by decide +kernel
theorem dL_law_1756 : decode cL_law 1756 = .ok (.ireturn, 1) := by decide +kernel
theorem dL_law_1757 : decode cL_law 1757 = .ok (.aload_n 1, 1) := by decide +kernel
theorem dL_law_1758 : decode cL_law 1758 = .ok (.invokevirtual 245, 3) := by decide +kernel
theorem dL_law_1761 : decode cL_law 1761 = .ok (.aload_n 2, 1) := by decide +kernel
theorem dL_law_1762 : decode cL_law 1762 = .ok (.invokevirtual 248, 3) := by decide +kernel
theorem dL_law_1765 : decode cL_law 1765 = .ok (.if_icmp .eq 56, 3) := by decide +kernel
theorem dL_law_1768 : decode cL_law 1768 = .ok (.iconst 0, 1) := by decide +kernel
theorem dL_law_1769 : decode cL_law 1769 = .ok (.ireturn, 1) := by decide +kernel
theorem dL_law_1770 : decode cL_law 1770 = .ok (.aload_n 1, 1) := by decide +kernel
theorem dL_law_1771 : decode cL_law 1771 = .ok (.invokevirtual 249, 3) := by decide +kernel
theorem dL_law_1774 : decode cL_law 1774 = .ok (.aload_n 2, 1) := by decide +kernel
theorem dL_law_1775 : decode cL_law 1775 = .ok (.invokevirtual 252, 3) := by decide +kernel
theorem dL_law_1778 : decode cL_law 1778 = .ok (.if_icmp .eq 43, 3) := by decide +kernel
theorem dL_law_1781 : decode cL_law 1781 = .ok (.iconst 0, 1) := by decide +kernel
theorem dL_law_1782 : decode cL_law 1782 = .ok (.ireturn, 1) := by decide +kernel
theorem dL_law_1783 : decode cL_law 1783 = .ok (.aload_n 1, 1) := by decide +kernel
theorem dL_law_1784 : decode cL_law 1784 = .ok (.invokevirtual 253, 3) := by decide +kernel
theorem dL_law_1787 : decode cL_law 1787 = .ok (.aload_n 2, 1) := by decide +kernel
theorem dL_law_1788 : decode cL_law 1788 = .ok (.invokevirtual 256, 3) := by decide +kernel

/-! the law: its calls, further -/
theorem eL_1509 : decode mL_law.2.1 1509 = .ok (.aload_n 1, 1) := dL_law_1509
theorem eL_1510 : decode mL_law.2.1 1510 = .ok (.aload_n 0, 1) := dL_law_1510
theorem eL_1511 : decode mL_law.2.1 1511 = .ok (.iload 4, 2) := dL_law_1511
theorem eL_1513 : decode mL_law.2.1 1513 = .ok (.iconst 1, 1) := dL_law_1513
theorem eL_1514 : decode mL_law.2.1 1514 = .ok (.iadd, 1) := dL_law_1514
theorem eL_1515 : decode mL_law.2.1 1515 = .ok (.iaload, 1) := dL_law_1515
theorem eL_1516 : decode mL_law.2.1 1516 = .ok (.ifCond .eq 7, 3) := dL_law_1516
theorem eL_1519 : decode mL_law.2.1 1519 = .ok (.iconst 1, 1) := dL_law_1519
theorem eL_1520 : decode mL_law.2.1 1520 = .ok (.goto 4, 3) := dL_law_1520
theorem eL_1523 : decode mL_law.2.1 1523 = .ok (.iconst 0, 1) := dL_law_1523
theorem eL_1524 : decode mL_law.2.1 1524 = .ok (.invokevirtual 167, 3) := dL_law_1524
theorem eL_1527 : decode mL_law.2.1 1527 = .ok (.aload_n 2, 1) := dL_law_1527
theorem eL_1528 : decode mL_law.2.1 1528 = .ok (.aload_n 0, 1) := dL_law_1528
theorem eL_1529 : decode mL_law.2.1 1529 = .ok (.iload 4, 2) := dL_law_1529
theorem eL_1531 : decode mL_law.2.1 1531 = .ok (.iconst 1, 1) := dL_law_1531
theorem eL_1532 : decode mL_law.2.1 1532 = .ok (.iadd, 1) := dL_law_1532
theorem eL_1533 : decode mL_law.2.1 1533 = .ok (.iaload, 1) := dL_law_1533
theorem eL_1534 : decode mL_law.2.1 1534 = .ok (.ifCond .eq 7, 3) := dL_law_1534
theorem eL_1537 : decode mL_law.2.1 1537 = .ok (.iconst 1, 1) := dL_law_1537
theorem eL_1538 : decode mL_law.2.1 1538 = .ok (.goto 4, 3) := dL_law_1538
theorem eL_1541 : decode mL_law.2.1 1541 = .ok (.iconst 0, 1) := dL_law_1541
theorem eL_1542 : decode mL_law.2.1 1542 = .ok (.invokevirtual 171, 3) := dL_law_1542
theorem eL_1545 : decode mL_law.2.1 1545 = .ok (.if_icmp .eq 354, 3) := dL_law_1545
theorem eL_1548 : decode mL_law.2.1 1548 = .ok (.iconst 0, 1) := dL_law_1548
theorem eL_1549 : decode mL_law.2.1 1549 = .ok (.ireturn, 1) := dL_law_1549
theorem eL_1550 : decode mL_law.2.1 1550 = .ok (.aload_n 1, 1) := dL_law_1550
theorem eL_1551 : decode mL_law.2.1 1551 = .ok (.aload_n 3, 1) := dL_law_1551
theorem eL_1552 : decode mL_law.2.1 1552 = .ok (.invokestatic 172, 3) := dL_law_1552
theorem eL_1555 : decode mL_law.2.1 1555 = .ok (.istore 5, 2) := dL_law_1555
theorem eL_1557 : decode mL_law.2.1 1557 = .ok (.aload_n 2, 1) := dL_law_1557
theorem eL_1558 : decode mL_law.2.1 1558 = .ok (.invokevirtual 175, 3) := dL_law_1558
theorem eL_1561 : decode mL_law.2.1 1561 = .ok (.istore 6, 2) := dL_law_1561
theorem eL_1563 : decode mL_law.2.1 1563 = .ok (.aload_n 2, 1) := dL_law_1563
theorem eL_1564 : decode mL_law.2.1 1564 = .ok (.invokevirtual 103, 3) := dL_law_1564
theorem eL_1567 : decode mL_law.2.1 1567 = .ok (.iload 5, 2) := dL_law_1567
theorem eL_1569 : decode mL_law.2.1 1569 = .ok (.if_icmp .eq 5, 3) := dL_law_1569
theorem eL_1572 : decode mL_law.2.1 1572 = .ok (.iconst 0, 1) := dL_law_1572
theorem eL_1573 : decode mL_law.2.1 1573 = .ok (.ireturn, 1) := dL_law_1573
theorem eL_1574 : decode mL_law.2.1 1574 = .ok (.iload 5, 2) := dL_law_1574
theorem eL_1576 : decode mL_law.2.1 1576 = .ok (.ifCond .ne 15, 3) := dL_law_1576
theorem eL_1579 : decode mL_law.2.1 1579 = .ok (.aload_n 3, 1) := dL_law_1579
theorem eL_1580 : decode mL_law.2.1 1580 = .ok (.iconst 0, 1) := dL_law_1580
theorem eL_1581 : decode mL_law.2.1 1581 = .ok (.laload, 1) := dL_law_1581
theorem eL_1582 : decode mL_law.2.1 1582 = .ok (.iload 6, 2) := dL_law_1582
theorem eL_1584 : decode mL_law.2.1 1584 = .ok (.i2l, 1) := dL_law_1584
theorem eL_1585 : decode mL_law.2.1 1585 = .ok (.lcmp, 1) := dL_law_1585
theorem eL_1586 : decode mL_law.2.1 1586 = .ok (.ifCond .eq 5, 3) := dL_law_1586
theorem eL_1589 : decode mL_law.2.1 1589 = .ok (.iconst 0, 1) := dL_law_1589
theorem eL_1590 : decode mL_law.2.1 1590 = .ok (.ireturn, 1) := dL_law_1590
theorem eL_1591 : decode mL_law.2.1 1591 = .ok (.goto 308, 3) := dL_law_1591
theorem eL_1594 : decode mL_law.2.1 1594 = .ok (.aload_n 1, 1) := dL_law_1594
theorem eL_1595 : decode mL_law.2.1 1595 = .ok (.aload_n 0, 1) := dL_law_1595
theorem eL_1596 : decode mL_law.2.1 1596 = .ok (.iload 4, 2) := dL_law_1596
theorem eL_1598 : decode mL_law.2.1 1598 = .ok (.iconst 1, 1) := dL_law_1598
theorem eL_1599 : decode mL_law.2.1 1599 = .ok (.iadd, 1) := dL_law_1599
theorem eL_1600 : decode mL_law.2.1 1600 = .ok (.iaload, 1) := dL_law_1600
theorem eL_1601 : decode mL_law.2.1 1601 = .ok (.aload_n 3, 1) := dL_law_1601
theorem eL_1602 : decode mL_law.2.1 1602 = .ok (.invokestatic 176, 3) := dL_law_1602
theorem eL_1605 : decode mL_law.2.1 1605 = .ok (.istore 5, 2) := dL_law_1605
theorem eL_1607 : decode mL_law.2.1 1607 = .ok (.aload_n 2, 1) := dL_law_1607
theorem eL_1608 : decode mL_law.2.1 1608 = .ok (.aload_n 0, 1) := dL_law_1608
theorem eL_1609 : decode mL_law.2.1 1609 = .ok (.iload 4, 2) := dL_law_1609
theorem eL_1611 : decode mL_law.2.1 1611 = .ok (.iconst 1, 1) := dL_law_1611
theorem eL_1612 : decode mL_law.2.1 1612 = .ok (.iadd, 1) := dL_law_1612
theorem eL_1613 : decode mL_law.2.1 1613 = .ok (.iaload, 1) := dL_law_1613
theorem eL_1614 : decode mL_law.2.1 1614 = .ok (.invokevirtual 178, 3) := dL_law_1614
theorem eL_1617 : decode mL_law.2.1 1617 = .ok (.istore 6, 2) := dL_law_1617
theorem eL_1619 : decode mL_law.2.1 1619 = .ok (.aload_n 2, 1) := dL_law_1619
theorem eL_1620 : decode mL_law.2.1 1620 = .ok (.invokevirtual 103, 3) := dL_law_1620
theorem eL_1623 : decode mL_law.2.1 1623 = .ok (.iload 5, 2) := dL_law_1623
theorem eL_1625 : decode mL_law.2.1 1625 = .ok (.if_icmp .eq 5, 3) := dL_law_1625
theorem eL_1628 : decode mL_law.2.1 1628 = .ok (.iconst 0, 1) := dL_law_1628
theorem eL_1629 : decode mL_law.2.1 1629 = .ok (.ireturn, 1) := dL_law_1629
theorem eL_1630 : decode mL_law.2.1 1630 = .ok (.iload 5, 2) := dL_law_1630
theorem eL_1632 : decode mL_law.2.1 1632 = .ok (.ifCond .ne 15, 3) := dL_law_1632
theorem eL_1635 : decode mL_law.2.1 1635 = .ok (.aload_n 3, 1) := dL_law_1635
theorem eL_1636 : decode mL_law.2.1 1636 = .ok (.iconst 0, 1) := dL_law_1636
theorem eL_1637 : decode mL_law.2.1 1637 = .ok (.laload, 1) := dL_law_1637
theorem eL_1638 : decode mL_law.2.1 1638 = .ok (.iload 6, 2) := dL_law_1638
theorem eL_1640 : decode mL_law.2.1 1640 = .ok (.i2l, 1) := dL_law_1640
theorem eL_1641 : decode mL_law.2.1 1641 = .ok (.lcmp, 1) := dL_law_1641
theorem eL_1642 : decode mL_law.2.1 1642 = .ok (.ifCond .eq 5, 3) := dL_law_1642
theorem eL_1645 : decode mL_law.2.1 1645 = .ok (.iconst 0, 1) := dL_law_1645
theorem eL_1646 : decode mL_law.2.1 1646 = .ok (.ireturn, 1) := dL_law_1646
theorem eL_1647 : decode mL_law.2.1 1647 = .ok (.goto 252, 3) := dL_law_1647
theorem eL_1650 : decode mL_law.2.1 1650 = .ok (.aload_n 1, 1) := dL_law_1650
theorem eL_1651 : decode mL_law.2.1 1651 = .ok (.aload_n 0, 1) := dL_law_1651
theorem eL_1652 : decode mL_law.2.1 1652 = .ok (.iload 4, 2) := dL_law_1652
theorem eL_1654 : decode mL_law.2.1 1654 = .ok (.iconst 1, 1) := dL_law_1654
theorem eL_1655 : decode mL_law.2.1 1655 = .ok (.iadd, 1) := dL_law_1655
theorem eL_1656 : decode mL_law.2.1 1656 = .ok (.iaload, 1) := dL_law_1656
theorem eL_1657 : decode mL_law.2.1 1657 = .ok (.aload_n 3, 1) := dL_law_1657
theorem eL_1658 : decode mL_law.2.1 1658 = .ok (.invokestatic 179, 3) := dL_law_1658
theorem eL_1661 : decode mL_law.2.1 1661 = .ok (.istore 5, 2) := dL_law_1661
theorem eL_1663 : decode mL_law.2.1 1663 = .ok (.aload_n 2, 1) := dL_law_1663
theorem eL_1664 : decode mL_law.2.1 1664 = .ok (.aload_n 0, 1) := dL_law_1664
theorem eL_1665 : decode mL_law.2.1 1665 = .ok (.iload 4, 2) := dL_law_1665
theorem eL_1667 : decode mL_law.2.1 1667 = .ok (.iconst 1, 1) := dL_law_1667
theorem eL_1668 : decode mL_law.2.1 1668 = .ok (.iadd, 1) := dL_law_1668
theorem eL_1669 : decode mL_law.2.1 1669 = .ok (.iaload, 1) := dL_law_1669
theorem eL_1670 : decode mL_law.2.1 1670 = .ok (.invokevirtual 181, 3) := dL_law_1670
theorem eL_1673 : decode mL_law.2.1 1673 = .ok (.istore 6, 2) := dL_law_1673
theorem eL_1675 : decode mL_law.2.1 1675 = .ok (.aload_n 2, 1) := dL_law_1675
theorem eL_1676 : decode mL_law.2.1 1676 = .ok (.invokevirtual 103, 3) := dL_law_1676
theorem eL_1679 : decode mL_law.2.1 1679 = .ok (.iload 5, 2) := dL_law_1679
theorem eL_1681 : decode mL_law.2.1 1681 = .ok (.if_icmp .eq 5, 3) := dL_law_1681
theorem eL_1684 : decode mL_law.2.1 1684 = .ok (.iconst 0, 1) := dL_law_1684
theorem eL_1685 : decode mL_law.2.1 1685 = .ok (.ireturn, 1) := dL_law_1685
theorem eL_1686 : decode mL_law.2.1 1686 = .ok (.iload 5, 2) := dL_law_1686
theorem eL_1688 : decode mL_law.2.1 1688 = .ok (.ifCond .ne 15, 3) := dL_law_1688
theorem eL_1691 : decode mL_law.2.1 1691 = .ok (.aload_n 3, 1) := dL_law_1691
theorem eL_1692 : decode mL_law.2.1 1692 = .ok (.iconst 0, 1) := dL_law_1692
theorem eL_1693 : decode mL_law.2.1 1693 = .ok (.laload, 1) := dL_law_1693
theorem eL_1694 : decode mL_law.2.1 1694 = .ok (.iload 6, 2) := dL_law_1694
theorem eL_1696 : decode mL_law.2.1 1696 = .ok (.i2l, 1) := dL_law_1696
theorem eL_1697 : decode mL_law.2.1 1697 = .ok (.lcmp, 1) := dL_law_1697
theorem eL_1698 : decode mL_law.2.1 1698 = .ok (.ifCond .eq 5, 3) := dL_law_1698
theorem eL_1701 : decode mL_law.2.1 1701 = .ok (.iconst 0, 1) := dL_law_1701
theorem eL_1702 : decode mL_law.2.1 1702 = .ok (.ireturn, 1) := dL_law_1702
theorem eL_1703 : decode mL_law.2.1 1703 = .ok (.goto 196, 3) := dL_law_1703
theorem eL_1706 : decode mL_law.2.1 1706 = .ok (.aload_n 1, 1) := dL_law_1706
theorem eL_1707 : decode mL_law.2.1 1707 = .ok (.aload_n 0, 1) := dL_law_1707
theorem eL_1708 : decode mL_law.2.1 1708 = .ok (.iload 4, 2) := dL_law_1708
theorem eL_1710 : decode mL_law.2.1 1710 = .ok (.iconst 1, 1) := dL_law_1710
theorem eL_1711 : decode mL_law.2.1 1711 = .ok (.iadd, 1) := dL_law_1711
theorem eL_1712 : decode mL_law.2.1 1712 = .ok (.iaload, 1) := dL_law_1712
theorem eL_1713 : decode mL_law.2.1 1713 = .ok (.aload_n 3, 1) := dL_law_1713
theorem eL_1714 : decode mL_law.2.1 1714 = .ok (.invokestatic 182, 3) := dL_law_1714
theorem eL_1717 : decode mL_law.2.1 1717 = .ok (.istore 5, 2) := dL_law_1717
theorem eL_1719 : decode mL_law.2.1 1719 = .ok (.aload_n 2, 1) := dL_law_1719
theorem eL_1720 : decode mL_law.2.1 1720 = .ok (.aload_n 0, 1) := dL_law_1720
theorem eL_1721 : decode mL_law.2.1 1721 = .ok (.iload 4, 2) := dL_law_1721
theorem eL_1723 : decode mL_law.2.1 1723 = .ok (.iconst 1, 1) := dL_law_1723
theorem eL_1724 : decode mL_law.2.1 1724 = .ok (.iadd, 1) := dL_law_1724
theorem eL_1725 : decode mL_law.2.1 1725 = .ok (.iaload, 1) := dL_law_1725
theorem eL_1726 : decode mL_law.2.1 1726 = .ok (.invokevirtual 184, 3) := dL_law_1726
theorem eL_1729 : decode mL_law.2.1 1729 = .ok (.istore 6, 2) := dL_law_1729
theorem eL_1731 : decode mL_law.2.1 1731 = .ok (.aload_n 2, 1) := dL_law_1731
theorem eL_1732 : decode mL_law.2.1 1732 = .ok (.invokevirtual 103, 3) := dL_law_1732
theorem eL_1735 : decode mL_law.2.1 1735 = .ok (.iload 5, 2) := dL_law_1735
theorem eL_1737 : decode mL_law.2.1 1737 = .ok (.if_icmp .eq 5, 3) := dL_law_1737
theorem eL_1740 : decode mL_law.2.1 1740 = .ok (.iconst 0, 1) := dL_law_1740
theorem eL_1741 : decode mL_law.2.1 1741 = .ok (.ireturn, 1) := dL_law_1741
theorem eL_1742 : decode mL_law.2.1 1742 = .ok (.iload 5, 2) := dL_law_1742
theorem eL_1744 : decode mL_law.2.1 1744 = .ok (.ifCond .ne 15, 3) := dL_law_1744
theorem eL_1747 : decode mL_law.2.1 1747 = .ok (.aload_n 3, 1) := dL_law_1747
theorem eL_1748 : decode mL_law.2.1 1748 = .ok (.iconst 0, 1) := dL_law_1748
theorem eL_1749 : decode mL_law.2.1 1749 = .ok (.laload, 1) := dL_law_1749
theorem eL_1750 : decode mL_law.2.1 1750 = .ok (.iload 6, 2) := dL_law_1750
theorem eL_1752 : decode mL_law.2.1 1752 = .ok (.i2l, 1) := dL_law_1752
theorem eL_1753 : decode mL_law.2.1 1753 = .ok (.lcmp, 1) := dL_law_1753
theorem eL_1754 : decode mL_law.2.1 1754 = .ok (.ifCond .eq 5, 3) := dL_law_1754
theorem eL_1757 : decode mL_law.2.1 1757 = .ok (.iconst 0, 1) := dL_law_1757
theorem eL_1758 : decode mL_law.2.1 1758 = .ok (.ireturn, 1) := dL_law_1758
theorem eL_1759 : decode mL_law.2.1 1759 = .ok (.goto 140, 3) := dL_law_1759
theorem eL_1762 : decode mL_law.2.1 1762 = .ok (.aload_n 1, 1) := dL_law_1762
theorem eL_1763 : decode mL_law.2.1 1763 = .ok (.aload_n 0, 1) := dL_law_1763
theorem eL_1764 : decode mL_law.2.1 1764 = .ok (.iload 4, 2) := dL_law_1764
theorem eL_1766 : decode mL_law.2.1 1766 = .ok (.iconst 1, 1) := dL_law_1766
theorem eL_1767 : decode mL_law.2.1 1767 = .ok (.iadd, 1) := dL_law_1767
theorem eL_1768 : decode mL_law.2.1 1768 = .ok (.iaload, 1) := dL_law_1768
theorem eL_1769 : decode mL_law.2.1 1769 = .ok (.aload_n 3, 1) := dL_law_1769
theorem eL_1770 : decode mL_law.2.1 1770 = .ok (.invokestatic 185, 3) := dL_law_1770
theorem eL_1773 : decode mL_law.2.1 1773 = .ok (.istore 5, 2) := dL_law_1773
theorem eL_1775 : decode mL_law.2.1 1775 = .ok (.aload_n 2, 1) := dL_law_1775
theorem eL_1776 : decode mL_law.2.1 1776 = .ok (.aload_n 0, 1) := dL_law_1776
theorem eL_1777 : decode mL_law.2.1 1777 = .ok (.iload 4, 2) := dL_law_1777
theorem eL_1779 : decode mL_law.2.1 1779 = .ok (.iconst 1, 1) := dL_law_1779
theorem eL_1780 : decode mL_law.2.1 1780 = .ok (.iadd, 1) := dL_law_1780
theorem eL_1781 : decode mL_law.2.1 1781 = .ok (.iaload, 1) := dL_law_1781
theorem eL_1782 : decode mL_law.2.1 1782 = .ok (.invokevirtual 187, 3) := dL_law_1782
theorem eL_1785 : decode mL_law.2.1 1785 = .ok (.istore 6, 2) := dL_law_1785
theorem eL_1787 : decode mL_law.2.1 1787 = .ok (.aload_n 2, 1) := dL_law_1787
theorem eL_1788 : decode mL_law.2.1 1788 = .ok (.invokevirtual 103, 3) := dL_law_1788
theorem eL_1791 : decode mL_law.2.1 1791 = .ok (.iload 5, 2) := dL_law_1791
theorem eL_1793 : decode mL_law.2.1 1793 = .ok (.if_icmp .eq 5, 3) := dL_law_1793
theorem eL_1796 : decode mL_law.2.1 1796 = .ok (.iconst 0, 1) := dL_law_1796
theorem eL_1797 : decode mL_law.2.1 1797 = .ok (.ireturn, 1) := dL_law_1797
theorem eL_1798 : decode mL_law.2.1 1798 = .ok (.iload 5, 2) := dL_law_1798
theorem eL_1800 : decode mL_law.2.1 1800 = .ok (.ifCond .ne 15, 3) := dL_law_1800
theorem eL_1803 : decode mL_law.2.1 1803 = .ok (.aload_n 3, 1) := dL_law_1803
theorem eL_1804 : decode mL_law.2.1 1804 = .ok (.iconst 0, 1) := dL_law_1804
theorem eL_1805 : decode mL_law.2.1 1805 = .ok (.laload, 1) := dL_law_1805
theorem eL_1806 : decode mL_law.2.1 1806 = .ok (.iload 6, 2) := dL_law_1806
theorem eL_1808 : decode mL_law.2.1 1808 = .ok (.i2l, 1) := dL_law_1808
theorem eL_1809 : decode mL_law.2.1 1809 = .ok (.lcmp, 1) := dL_law_1809
theorem eL_1810 : decode mL_law.2.1 1810 = .ok (.ifCond .eq 5, 3) := dL_law_1810
theorem eL_1813 : decode mL_law.2.1 1813 = .ok (.iconst 0, 1) := dL_law_1813
theorem eL_1814 : decode mL_law.2.1 1814 = .ok (.ireturn, 1) := dL_law_1814
theorem eL_1815 : decode mL_law.2.1 1815 = .ok (.goto 84, 3) := dL_law_1815
theorem eL_1818 : decode mL_law.2.1 1818 = .ok (.aload_n 1, 1) := dL_law_1818
theorem eL_1819 : decode mL_law.2.1 1819 = .ok (.aload_n 0, 1) := dL_law_1819
theorem eL_1820 : decode mL_law.2.1 1820 = .ok (.iload 4, 2) := dL_law_1820
theorem eL_1822 : decode mL_law.2.1 1822 = .ok (.iconst 1, 1) := dL_law_1822
theorem eL_1823 : decode mL_law.2.1 1823 = .ok (.iadd, 1) := dL_law_1823
theorem eL_1824 : decode mL_law.2.1 1824 = .ok (.iaload, 1) := dL_law_1824
theorem eL_1825 : decode mL_law.2.1 1825 = .ok (.aload_n 3, 1) := dL_law_1825
theorem eL_1826 : decode mL_law.2.1 1826 = .ok (.invokestatic 188, 3) := dL_law_1826
theorem eL_1829 : decode mL_law.2.1 1829 = .ok (.istore 5, 2) := dL_law_1829
theorem eL_1831 : decode mL_law.2.1 1831 = .ok (.aload_n 2, 1) := dL_law_1831
theorem eL_1832 : decode mL_law.2.1 1832 = .ok (.aload_n 0, 1) := dL_law_1832
theorem eL_1833 : decode mL_law.2.1 1833 = .ok (.iload 4, 2) := dL_law_1833
theorem eL_1835 : decode mL_law.2.1 1835 = .ok (.iconst 1, 1) := dL_law_1835
theorem eL_1836 : decode mL_law.2.1 1836 = .ok (.iadd, 1) := dL_law_1836
theorem eL_1837 : decode mL_law.2.1 1837 = .ok (.iaload, 1) := dL_law_1837
theorem eL_1838 : decode mL_law.2.1 1838 = .ok (.invokevirtual 190, 3) := dL_law_1838
theorem eL_1841 : decode mL_law.2.1 1841 = .ok (.istore 6, 2) := dL_law_1841
theorem eL_1843 : decode mL_law.2.1 1843 = .ok (.aload_n 2, 1) := dL_law_1843
theorem eL_1844 : decode mL_law.2.1 1844 = .ok (.invokevirtual 103, 3) := dL_law_1844
theorem eL_1847 : decode mL_law.2.1 1847 = .ok (.iload 5, 2) := dL_law_1847
theorem eL_1849 : decode mL_law.2.1 1849 = .ok (.if_icmp .eq 5, 3) := dL_law_1849
theorem eL_1852 : decode mL_law.2.1 1852 = .ok (.iconst 0, 1) := dL_law_1852
theorem eL_1853 : decode mL_law.2.1 1853 = .ok (.ireturn, 1) := dL_law_1853
theorem eL_1854 : decode mL_law.2.1 1854 = .ok (.iload 5, 2) := dL_law_1854
theorem eL_1856 : decode mL_law.2.1 1856 = .ok (.ifCond .ne 15, 3) := dL_law_1856
theorem eL_1859 : decode mL_law.2.1 1859 = .ok (.aload_n 3, 1) := dL_law_1859
theorem eL_1860 : decode mL_law.2.1 1860 = .ok (.iconst 0, 1) := dL_law_1860
theorem eL_1861 : decode mL_law.2.1 1861 = .ok (.laload, 1) := dL_law_1861
theorem eL_1862 : decode mL_law.2.1 1862 = .ok (.iload 6, 2) := dL_law_1862
theorem eL_1864 : decode mL_law.2.1 1864 = .ok (.i2l, 1) := dL_law_1864
theorem eL_1865 : decode mL_law.2.1 1865 = .ok (.lcmp, 1) := dL_law_1865
theorem eL_1866 : decode mL_law.2.1 1866 = .ok (.ifCond .eq 5, 3) := dL_law_1866
theorem eL_1869 : decode mL_law.2.1 1869 = .ok (.iconst 0, 1) := dL_law_1869
theorem eL_1870 : decode mL_law.2.1 1870 = .ok (.ireturn, 1) := dL_law_1870
theorem eL_1871 : decode mL_law.2.1 1871 = .ok (.goto 28, 3) := dL_law_1871
theorem eL_1874 : decode mL_law.2.1 1874 = .ok (.aload_n 1, 1) := dL_law_1874
theorem eL_1875 : decode mL_law.2.1 1875 = .ok (.aload_n 0, 1) := dL_law_1875
theorem eL_1876 : decode mL_law.2.1 1876 = .ok (.iload 4, 2) := dL_law_1876
theorem eL_1878 : decode mL_law.2.1 1878 = .ok (.iconst 1, 1) := dL_law_1878
theorem eL_1879 : decode mL_law.2.1 1879 = .ok (.iadd, 1) := dL_law_1879
theorem eL_1880 : decode mL_law.2.1 1880 = .ok (.iaload, 1) := dL_law_1880
theorem eL_1881 : decode mL_law.2.1 1881 = .ok (.invokevirtual 191, 3) := dL_law_1881
theorem eL_1884 : decode mL_law.2.1 1884 = .ok (.aload_n 2, 1) := dL_law_1884
theorem eL_1885 : decode mL_law.2.1 1885 = .ok (.aload_n 0, 1) := dL_law_1885
theorem eL_1886 : decode mL_law.2.1 1886 = .ok (.iload 4, 2) := dL_law_1886
theorem eL_1888 : decode mL_law.2.1 1888 = .ok (.iconst 1, 1) := dL_law_1888
theorem eL_1889 : decode mL_law.2.1 1889 = .ok (.iadd, 1) := dL_law_1889
theorem eL_1890 : decode mL_law.2.1 1890 = .ok (.iaload, 1) := dL_law_1890
theorem eL_1891 : decode mL_law.2.1 1891 = .ok (.invokevirtual 194, 3) := dL_law_1891
theorem eL_1894 : decode mL_law.2.1 1894 = .ok (.if_icmp .eq 5, 3) := dL_law_1894
theorem eL_1897 : decode mL_law.2.1 1897 = .ok (.iconst 0, 1) := dL_law_1897
theorem eL_1898 : decode mL_law.2.1 1898 = .ok (.ireturn, 1) := dL_law_1898
theorem eL_1899 : decode mL_law.2.1 1899 = .ok (.iinc 4 6, 3) := dL_law_1899
theorem eL_1902 : decode mL_law.2.1 1902 = .ok (.goto (-1879), 3) := dL_law_1902
theorem eL_1905 : decode mL_law.2.1 1905 = .ok (.iconst 1, 1) := dL_law_1905
theorem eL_1906 : decode mL_law.2.1 1906 = .ok (.ireturn, 1) := dL_law_1906
set_option maxRecDepth 20000 in
theorem st_lightest0 {S0 : Nat → Int} {n0 i oo nc ns dx cx sx dm cm sm D mc ms : Nat} {v0 : Int} {QX QM : HF → HA → Prop} {l5 l6 : Option LV} {F : HF} {A : HA} {al : AL} {Post : PO}
    (hK : KX al) (hM : KM al) (hs : al.1 0 = (4, n0)) (hoo : al.1 oo = (2, 1)) (h67 : 67 ≤ oo) (hot : oo < al.2) (hA0 : A 0 = S0) (hi : i + 6 ≤ n0) (hn0 : n0 ≤ 3072) (hz : S0 ((i : Int) + 1).toNat = 0) (hzr : InR (S0 ((i : Int) + 1).toNat))
    (hD : 60 ≤ D) (hdx : dx ≤ 57) (hdm : dm ≤ 57) (hmc : nc + cx + cm ≤ mc) (hms : ns + sx + sm ≤ ms)
    (hQX : ∀ (F1 : HF) (A1 : HA) (F2 : HF) (A2 : HA), QX F1 A1 → (∀ b k, b < 44 → F2 b k = F1 b k) → (∀ b, b < 44 → A2 b = A1 b) → QX F2 A2)
    (evx : QE dx cx sx mX11_lightest (vA 1 :: [vI 0]) F A al (PXR eN (some v0) F A al QX))
    (evm : ∀ (F1 : HF) (A1 : HA), (∀ b k, 44 ≤ b → F1 b k = F b k) → (∀ b, 44 ≤ b → b < 67 → A1 b = A b) → QE dm cm sm mX12_lightest (vA 44 :: [vI 0]) F1 A1 al (PMR (some v0) F1 A1 al QM))
    (kk : ∀ (F2 : HF) (A2 : HA) (al2 : AL) (l5 l6 : Option LV), KE al.2 al al2 → QX F2 A2 → QM F2 A2 → A2 0 = S0 → QW mL_law D mc ms Post (nc + cx + cm) (ns + sx + sm) 1899 [some (vA 0), some (vA 1), some (vA 44), some (vA oo), some (vI (i : Nat)), l5, l6] [] F2 A2 al2) :
    QW mL_law D mc ms Post nc ns 1509 [some (vA 0), some (vA 1), some (vA 44), some (vA oo), some (vI (i : Nat)), l5, l6] [] F A al := by
  refine q_aload_n eL_1509 rfl ?_
  refine q_aload_n eL_1510 rfl ?_
  refine q_iload eL_1511 rfl ?_
  refine q_iconst eL_1513 ?_
  refine q_iadd eL_1514 ?_
  refine q_sldE eL_1515 hA0 hs (by omega) (by omega) ?_
  refine q_if_eq (tgt := 1523) eL_1516 (by decide) hzr (fun c => ?_) (fun c => ?_)
  rotate_left
  · exact absurd hz c
  refine q_iconst eL_1523 ?_
  refine q_callV [vI 0] (M1 := mX11_lightest) eL_1524 mf_X11_lightest lk_L_167 (hK 1 (by decide) (by decide)) evx (by intro E F A al h; cases h.1) (by omega) (by omega) (by omega) (Nat.le_of_ble_eq_true rfl) (st := []) rfl (fun v1 F1 A1 al1 h1 => ?_)
  obtain ⟨e1, rfl, f1, a1, q9⟩ := h1
  cases e1
  have hA1 : A1 0 = S0 := (a1 0 (Or.inl rfl)).trans hA0
  refine q_aload_n eL_1527 rfl ?_
  refine q_aload_n eL_1528 rfl ?_
  refine q_iload eL_1529 rfl ?_
  refine q_iconst eL_1531 ?_
  refine q_iadd eL_1532 ?_
  refine q_sldE eL_1533 hA1 hs (by omega) (by omega) ?_
  refine q_if_eq (tgt := 1541) eL_1534 (by decide) hzr (fun c => ?_) (fun c => ?_)
  rotate_left
  · exact absurd hz c
  refine q_iconst eL_1541 ?_
  refine q_callV [vI 0] (M1 := mX12_lightest) eL_1542 mf_X12_lightest lk_L_171 (hM 44 (by decide) (by decide)) (evm F1 A1 f1 (fun b h1 _ => a1 b (Or.inr h1))) (by intro E F A al h; cases h.1) (by omega) (by omega) (by omega) (Nat.le_of_ble_eq_true rfl) (st := [vI v0]) rfl (fun v2 F2 A2 al2 h2 => ?_)
  obtain ⟨e2, t2, ke, f2, a2, q2⟩ := h2
  obtain rfl := Sum.inl.inj e2
  have hA2 : A2 0 = S0 := (a2 0 (by omega) (Or.inl (by decide))).trans hA1
  have hx2 : QX F2 A2 := hQX F1 A1 F2 A2 q9 (fun b k hb => f2 b k (by omega) (by omega)) (fun b hb => a2 b (by omega) (Or.inl hb))
  refine q_icmp_same (tgt := 1899) eL_1545 (by decide) ?_
  exact kk F2 A2 al2 _ _ ke hx2 q2 hA2
set_option maxRecDepth 20000 in
theorem st_lightest1 {S0 : Nat → Int} {n0 i oo nc ns dx cx sx dm cm sm D mc ms : Nat} {v0 : Int} {QX QM : HF → HA → Prop} {l5 l6 : Option LV} {F : HF} {A : HA} {al : AL} {Post : PO}
    (hK : KX al) (hM : KM al) (hs : al.1 0 = (4, n0)) (hoo : al.1 oo = (2, 1)) (h67 : 67 ≤ oo) (hot : oo < al.2) (hA0 : A 0 = S0) (hi : i + 6 ≤ n0) (hn0 : n0 ≤ 3072) (hz : ¬ S0 ((i : Int) + 1).toNat = 0) (hzr : InR (S0 ((i : Int) + 1).toNat))
    (hD : 60 ≤ D) (hdx : dx ≤ 57) (hdm : dm ≤ 57) (hmc : nc + cx + cm ≤ mc) (hms : ns + sx + sm ≤ ms)
    (hQX : ∀ (F1 : HF) (A1 : HA) (F2 : HF) (A2 : HA), QX F1 A1 → (∀ b k, b < 44 → F2 b k = F1 b k) → (∀ b, b < 44 → A2 b = A1 b) → QX F2 A2)
    (evx : QE dx cx sx mX11_lightest (vA 1 :: [vI 1]) F A al (PXR eN (some v0) F A al QX))
    (evm : ∀ (F1 : HF) (A1 : HA), (∀ b k, 44 ≤ b → F1 b k = F b k) → (∀ b, 44 ≤ b → b < 67 → A1 b = A b) → QE dm cm sm mX12_lightest (vA 44 :: [vI 1]) F1 A1 al (PMR (some v0) F1 A1 al QM))
    (kk : ∀ (F2 : HF) (A2 : HA) (al2 : AL) (l5 l6 : Option LV), KE al.2 al al2 → QX F2 A2 → QM F2 A2 → A2 0 = S0 → QW mL_law D mc ms Post (nc + cx + cm) (ns + sx + sm) 1899 [some (vA 0), some (vA 1), some (vA 44), some (vA oo), some (vI (i : Nat)), l5, l6] [] F2 A2 al2) :
    QW mL_law D mc ms Post nc ns 1509 [some (vA 0), some (vA 1), some (vA 44), some (vA oo), some (vI (i : Nat)), l5, l6] [] F A al := by
  refine q_aload_n eL_1509 rfl ?_
  refine q_aload_n eL_1510 rfl ?_
  refine q_iload eL_1511 rfl ?_
  refine q_iconst eL_1513 ?_
  refine q_iadd eL_1514 ?_
  refine q_sldE eL_1515 hA0 hs (by omega) (by omega) ?_
  refine q_if_eq (tgt := 1523) eL_1516 (by decide) hzr (fun c => ?_) (fun c => ?_)
  · exact absurd c hz
  refine q_iconst eL_1519 ?_
  refine q_goto (tgt := 1524) eL_1520 (by decide) ?_
  refine q_callV [vI 1] (M1 := mX11_lightest) eL_1524 mf_X11_lightest lk_L_167 (hK 1 (by decide) (by decide)) evx (by intro E F A al h; cases h.1) (by omega) (by omega) (by omega) (Nat.le_of_ble_eq_true rfl) (st := []) rfl (fun v1 F1 A1 al1 h1 => ?_)
  obtain ⟨e1, rfl, f1, a1, q9⟩ := h1
  cases e1
  have hA1 : A1 0 = S0 := (a1 0 (Or.inl rfl)).trans hA0
  refine q_aload_n eL_1527 rfl ?_
  refine q_aload_n eL_1528 rfl ?_
  refine q_iload eL_1529 rfl ?_
  refine q_iconst eL_1531 ?_
  refine q_iadd eL_1532 ?_
  refine q_sldE eL_1533 hA1 hs (by omega) (by omega) ?_
  refine q_if_eq (tgt := 1541) eL_1534 (by decide) hzr (fun c => ?_) (fun c => ?_)
  · exact absurd c hz
  refine q_iconst eL_1537 ?_
  refine q_goto (tgt := 1542) eL_1538 (by decide) ?_
  refine q_callV [vI 1] (M1 := mX12_lightest) eL_1542 mf_X12_lightest lk_L_171 (hM 44 (by decide) (by decide)) (evm F1 A1 f1 (fun b h1 _ => a1 b (Or.inr h1))) (by intro E F A al h; cases h.1) (by omega) (by omega) (by omega) (Nat.le_of_ble_eq_true rfl) (st := [vI v0]) rfl (fun v2 F2 A2 al2 h2 => ?_)
  obtain ⟨e2, t2, ke, f2, a2, q2⟩ := h2
  obtain rfl := Sum.inl.inj e2
  have hA2 : A2 0 = S0 := (a2 0 (by omega) (Or.inl (by decide))).trans hA1
  have hx2 : QX F2 A2 := hQX F1 A1 F2 A2 q9 (fun b k hb => f2 b k (by omega) (by omega)) (fun b hb => a2 b (by omega) (Or.inl hb))
  refine q_icmp_same (tgt := 1899) eL_1545 (by decide) ?_
  exact kk F2 A2 al2 _ _ ke hx2 q2 hA2
set_option maxRecDepth 20000 in
theorem st_word {S0 : Nat → Int} {n0 i oo nc ns dx cx sx dm cm sm D mc ms : Nat} {R : Option Int} {QX QM : HF → HA → Prop} {l5 l6 : Option LV} {F : HF} {A : HA} {al : AL} {Post : PO}
    (hK : KX al) (hM : KM al) (hs : al.1 0 = (4, n0)) (hoo : al.1 oo = (2, 1)) (h67 : 67 ≤ oo) (hot : oo < al.2) (hA0 : A 0 = S0) (hi : i + 6 ≤ n0) (hn0 : n0 ≤ 3072)
    (hD : 60 ≤ D) (hdx : dx ≤ 57) (hdm : dm ≤ 57) (hmc : nc + cx + cm ≤ mc) (hms : ns + sx + sm ≤ ms)
    (hQX : ∀ (F1 : HF) (A1 : HA) (F2 : HF) (A2 : HA), QX F1 A1 → (∀ b k, b < 44 → F2 b k = F1 b k) → (∀ b, b < 44 → A2 b = A1 b) → QX F2 A2)
    (evx : QE dx cx sx mX11_word (vA 1 :: []) F A al (PXR eI R F A al QX))
    (evm : ∀ (F1 : HF) (A1 : HA), (∀ b k, 44 ≤ b → F1 b k = F b k) → (∀ b, 44 ≤ b → b < 67 → A1 b = A b) → QE dm cm sm mX12_word (vA 44 :: []) F1 A1 al (PMR R F1 A1 al QM))
    (kk : ∀ (F2 : HF) (A2 : HA) (al2 : AL) (l5 l6 : Option LV), KE al.2 al al2 → QX F2 A2 → QM F2 A2 → A2 0 = S0 → QW mL_law D mc ms Post (nc + cx + cm) (ns + sx + sm) 1899 [some (vA 0), some (vA 1), some (vA 44), some (vA oo), some (vI (i : Nat)), l5, l6] [] F2 A2 al2) :
    QW mL_law D mc ms Post nc ns 1550 [some (vA 0), some (vA 1), some (vA 44), some (vA oo), some (vI (i : Nat)), l5, l6] [] F A al := by
  refine q_aload_n eL_1550 rfl ?_
  refine q_aload_n eL_1551 rfl ?_
  refine q_callSW [vA 1, vA oo] (M1 := mL_word) eL_1552 mfw_word lkw_word (lw_word (D := 58) hK hoo h67 (by omega) evx) nt_PW (by omega) (by omega) (by omega) (Nat.le_of_ble_eq_true rfl) (st := []) rfl (fun v1 F1 A1 al1 h1 => ?_)
  obtain ⟨e1, rfl, f1, a1, ⟨A9, q9, b9⟩, w9⟩ := h1
  obtain rfl := Sum.inl.inj e1
  have hA1 : A1 0 = S0 := (a1 0 (Or.inl rfl)).trans hA0
  refine q_istore eL_1555 (by decide) rfl ?_
  refine q_aload_n eL_1557 rfl ?_
  refine q_callV [] (M1 := mX12_word) eL_1558 mf_X12_word lk_L_175 (hM 44 (by decide) (by decide)) (evm F1 A1 f1 (fun b h1 h2 => a1 b (Or.inr ⟨h1, h2⟩))) (by intro E F A al h; cases h.1) (by omega) (by omega) (by omega) (Nat.le_of_ble_eq_true rfl) (st := []) rfl (fun v2 F2 A2 al2 h2 => ?_)
  obtain ⟨e2, t2, ke, f2, a2, q2⟩ := h2
  obtain rfl := Sum.inl.inj e2
  have hA2 : A2 0 = S0 := (a2 0 (by omega) (Or.inl (by decide))).trans hA1
  have hx2 : QX F2 A2 := hQX F1 A9 F2 A2 q9 (fun b k hb => f2 b k (by omega) (by omega)) (fun b hb => (a2 b (by omega) (Or.inl hb)).trans (b9 b hb))
  have hM2 : KM al2 := fun a h1 h2 => (ke.2 a (by omega)).trans (hM a h1 h2)
  refine q_istore eL_1561 (by decide) rfl ?_
  refine q_aload_n eL_1563 rfl ?_
  refine q_callVP [] (M1 := mX12_thrown) eL_1564 mf_X12_thrown lk_L_103 (hM2 44 (by decide) (by decide)) (mo_thrown hM2 t2) (by omega) (by omega) (by omega) (Nat.le_of_ble_eq_true rfl) rfl ?_
  refine q_iload eL_1567 rfl ?_
  refine q_icmp_same (tgt := 1574) eL_1569 (by decide) ?_
  refine q_iload eL_1574 rfl ?_
  rcases R with _ | a9
  · refine q_if_ne (tgt := 1591) eL_1576 (by decide) ⟨by decide, by decide⟩ (fun c => ?_) (fun c => absurd c (by decide))
    refine q_goto (tgt := 1899) eL_1591 (by decide) ?_
    exact kk F2 A2 al2 _ _ ke hx2 q2 hA2
  · refine q_if_ne (tgt := 1591) eL_1576 (by decide) inR0 (fun c => absurd (show thE (some a9) = 0 from rfl) c) (fun c => ?_)
    refine q_aload_n eL_1579 rfl ?_
    refine q_iconst eL_1580 ?_
    refine q_lald eL_1581 ((ke.2 oo hot).trans hoo) (by decide) (by decide) ?_
    rw [show A2 oo (0 : Int).toNat = wr a9 from (congrFun (a2 oo hot (Or.inr h67)) 0).trans (w9 a9 rfl)]
    refine q_iload eL_1582 rfl ?_
    refine q_i2lw eL_1584 ?_
    refine q_lcmp eL_1585 (wr_L _) (wr_L _) ?_
    refine q_if_eq (tgt := 1591) eL_1586 (by decide) (cmpL_R _ _) (fun c => ?_) (fun c => absurd (cmpL_same _) c)
    refine q_goto (tgt := 1899) eL_1591 (by decide) ?_
    exact kk F2 A2 al2 _ _ ke hx2 q2 hA2
set_option maxRecDepth 20000 in
theorem st_number {S0 : Nat → Int} {n0 i oo nc ns dx cx sx dm cm sm D mc ms : Nat} {R : Option Int} {QX QM : HF → HA → Prop} {l5 l6 : Option LV} {F : HF} {A : HA} {al : AL} {Post : PO}
    (hK : KX al) (hM : KM al) (hs : al.1 0 = (4, n0)) (hoo : al.1 oo = (2, 1)) (h67 : 67 ≤ oo) (hot : oo < al.2) (hA0 : A 0 = S0) (hi : i + 6 ≤ n0) (hn0 : n0 ≤ 3072)
    (hD : 60 ≤ D) (hdx : dx ≤ 57) (hdm : dm ≤ 57) (hmc : nc + cx + cm ≤ mc) (hms : ns + sx + sm ≤ ms)
    (hQX : ∀ (F1 : HF) (A1 : HA) (F2 : HF) (A2 : HA), QX F1 A1 → (∀ b k, b < 44 → F2 b k = F1 b k) → (∀ b, b < 44 → A2 b = A1 b) → QX F2 A2)
    (evx : QE dx cx sx mX11_number (vA 1 :: [vI (S0 ((i : Int) + 1).toNat)]) F A al (PXR eN R F A al QX))
    (evm : ∀ (F1 : HF) (A1 : HA), (∀ b k, 44 ≤ b → F1 b k = F b k) → (∀ b, 44 ≤ b → b < 67 → A1 b = A b) → QE dm cm sm mX12_number (vA 44 :: [vI (S0 ((i : Int) + 1).toNat)]) F1 A1 al (PMR R F1 A1 al QM))
    (kk : ∀ (F2 : HF) (A2 : HA) (al2 : AL) (l5 l6 : Option LV), KE al.2 al al2 → QX F2 A2 → QM F2 A2 → A2 0 = S0 → QW mL_law D mc ms Post (nc + cx + cm) (ns + sx + sm) 1899 [some (vA 0), some (vA 1), some (vA 44), some (vA oo), some (vI (i : Nat)), l5, l6] [] F2 A2 al2) :
    QW mL_law D mc ms Post nc ns 1594 [some (vA 0), some (vA 1), some (vA 44), some (vA oo), some (vI (i : Nat)), l5, l6] [] F A al := by
  refine q_aload_n eL_1594 rfl ?_
  refine q_aload_n eL_1595 rfl ?_
  refine q_iload eL_1596 rfl ?_
  refine q_iconst eL_1598 ?_
  refine q_iadd eL_1599 ?_
  refine q_sldE eL_1600 hA0 hs (by omega) (by omega) ?_
  refine q_aload_n eL_1601 rfl ?_
  refine q_callSW [vA 1, vI (S0 ((i : Int) + 1).toNat), vA oo] (M1 := mL_number) eL_1602 mfw_number lkw_number (lw_number (D := 58) hK hoo h67 (by omega) evx) nt_PW (by omega) (by omega) (by omega) (Nat.le_of_ble_eq_true rfl) (st := []) rfl (fun v1 F1 A1 al1 h1 => ?_)
  obtain ⟨e1, rfl, f1, a1, ⟨A9, q9, b9⟩, w9⟩ := h1
  obtain rfl := Sum.inl.inj e1
  have hA1 : A1 0 = S0 := (a1 0 (Or.inl rfl)).trans hA0
  refine q_istore eL_1605 (by decide) rfl ?_
  refine q_aload_n eL_1607 rfl ?_
  refine q_aload_n eL_1608 rfl ?_
  refine q_iload eL_1609 rfl ?_
  refine q_iconst eL_1611 ?_
  refine q_iadd eL_1612 ?_
  refine q_sldE eL_1613 hA1 hs (by omega) (by omega) ?_
  refine q_callV [vI (S0 ((i : Int) + 1).toNat)] (M1 := mX12_number) eL_1614 mf_X12_number lk_L_178 (hM 44 (by decide) (by decide)) (evm F1 A1 f1 (fun b h1 h2 => a1 b (Or.inr ⟨h1, h2⟩))) (by intro E F A al h; cases h.1) (by omega) (by omega) (by omega) (Nat.le_of_ble_eq_true rfl) (st := []) rfl (fun v2 F2 A2 al2 h2 => ?_)
  obtain ⟨e2, t2, ke, f2, a2, q2⟩ := h2
  obtain rfl := Sum.inl.inj e2
  have hA2 : A2 0 = S0 := (a2 0 (by omega) (Or.inl (by decide))).trans hA1
  have hx2 : QX F2 A2 := hQX F1 A9 F2 A2 q9 (fun b k hb => f2 b k (by omega) (by omega)) (fun b hb => (a2 b (by omega) (Or.inl hb)).trans (b9 b hb))
  have hM2 : KM al2 := fun a h1 h2 => (ke.2 a (by omega)).trans (hM a h1 h2)
  refine q_istore eL_1617 (by decide) rfl ?_
  refine q_aload_n eL_1619 rfl ?_
  refine q_callVP [] (M1 := mX12_thrown) eL_1620 mf_X12_thrown lk_L_103 (hM2 44 (by decide) (by decide)) (mo_thrown hM2 t2) (by omega) (by omega) (by omega) (Nat.le_of_ble_eq_true rfl) rfl ?_
  refine q_iload eL_1623 rfl ?_
  refine q_icmp_same (tgt := 1630) eL_1625 (by decide) ?_
  refine q_iload eL_1630 rfl ?_
  rcases R with _ | a9
  · refine q_if_ne (tgt := 1647) eL_1632 (by decide) ⟨by decide, by decide⟩ (fun c => ?_) (fun c => absurd c (by decide))
    refine q_goto (tgt := 1899) eL_1647 (by decide) ?_
    exact kk F2 A2 al2 _ _ ke hx2 q2 hA2
  · refine q_if_ne (tgt := 1647) eL_1632 (by decide) inR0 (fun c => absurd (show thE (some a9) = 0 from rfl) c) (fun c => ?_)
    refine q_aload_n eL_1635 rfl ?_
    refine q_iconst eL_1636 ?_
    refine q_lald eL_1637 ((ke.2 oo hot).trans hoo) (by decide) (by decide) ?_
    rw [show A2 oo (0 : Int).toNat = wr a9 from (congrFun (a2 oo hot (Or.inr h67)) 0).trans (w9 a9 rfl)]
    refine q_iload eL_1638 rfl ?_
    refine q_i2lw eL_1640 ?_
    refine q_lcmp eL_1641 (wr_L _) (wr_L _) ?_
    refine q_if_eq (tgt := 1647) eL_1642 (by decide) (cmpL_R _ _) (fun c => ?_) (fun c => absurd (cmpL_same _) c)
    refine q_goto (tgt := 1899) eL_1647 (by decide) ?_
    exact kk F2 A2 al2 _ _ ke hx2 q2 hA2
set_option maxRecDepth 20000 in
theorem st_rest {S0 : Nat → Int} {n0 i oo nc ns dx cx sx dm cm sm D mc ms : Nat} {R : Option Int} {QX QM : HF → HA → Prop} {l5 l6 : Option LV} {F : HF} {A : HA} {al : AL} {Post : PO}
    (hK : KX al) (hM : KM al) (hs : al.1 0 = (4, n0)) (hoo : al.1 oo = (2, 1)) (h67 : 67 ≤ oo) (hot : oo < al.2) (hA0 : A 0 = S0) (hi : i + 6 ≤ n0) (hn0 : n0 ≤ 3072)
    (hD : 60 ≤ D) (hdx : dx ≤ 57) (hdm : dm ≤ 57) (hmc : nc + cx + cm ≤ mc) (hms : ns + sx + sm ≤ ms)
    (hQX : ∀ (F1 : HF) (A1 : HA) (F2 : HF) (A2 : HA), QX F1 A1 → (∀ b k, b < 44 → F2 b k = F1 b k) → (∀ b, b < 44 → A2 b = A1 b) → QX F2 A2)
    (evx : QE dx cx sx mX11_rest (vA 1 :: [vI (S0 ((i : Int) + 1).toNat)]) F A al (PXR eN R F A al QX))
    (evm : ∀ (F1 : HF) (A1 : HA), (∀ b k, 44 ≤ b → F1 b k = F b k) → (∀ b, 44 ≤ b → b < 67 → A1 b = A b) → QE dm cm sm mX12_rest (vA 44 :: [vI (S0 ((i : Int) + 1).toNat)]) F1 A1 al (PMR R F1 A1 al QM))
    (kk : ∀ (F2 : HF) (A2 : HA) (al2 : AL) (l5 l6 : Option LV), KE al.2 al al2 → QX F2 A2 → QM F2 A2 → A2 0 = S0 → QW mL_law D mc ms Post (nc + cx + cm) (ns + sx + sm) 1899 [some (vA 0), some (vA 1), some (vA 44), some (vA oo), some (vI (i : Nat)), l5, l6] [] F2 A2 al2) :
    QW mL_law D mc ms Post nc ns 1650 [some (vA 0), some (vA 1), some (vA 44), some (vA oo), some (vI (i : Nat)), l5, l6] [] F A al := by
  refine q_aload_n eL_1650 rfl ?_
  refine q_aload_n eL_1651 rfl ?_
  refine q_iload eL_1652 rfl ?_
  refine q_iconst eL_1654 ?_
  refine q_iadd eL_1655 ?_
  refine q_sldE eL_1656 hA0 hs (by omega) (by omega) ?_
  refine q_aload_n eL_1657 rfl ?_
  refine q_callSW [vA 1, vI (S0 ((i : Int) + 1).toNat), vA oo] (M1 := mL_rest) eL_1658 mfw_rest lkw_rest (lw_rest (D := 58) hK hoo h67 (by omega) evx) nt_PW (by omega) (by omega) (by omega) (Nat.le_of_ble_eq_true rfl) (st := []) rfl (fun v1 F1 A1 al1 h1 => ?_)
  obtain ⟨e1, rfl, f1, a1, ⟨A9, q9, b9⟩, w9⟩ := h1
  obtain rfl := Sum.inl.inj e1
  have hA1 : A1 0 = S0 := (a1 0 (Or.inl rfl)).trans hA0
  refine q_istore eL_1661 (by decide) rfl ?_
  refine q_aload_n eL_1663 rfl ?_
  refine q_aload_n eL_1664 rfl ?_
  refine q_iload eL_1665 rfl ?_
  refine q_iconst eL_1667 ?_
  refine q_iadd eL_1668 ?_
  refine q_sldE eL_1669 hA1 hs (by omega) (by omega) ?_
  refine q_callV [vI (S0 ((i : Int) + 1).toNat)] (M1 := mX12_rest) eL_1670 mf_X12_rest lk_L_181 (hM 44 (by decide) (by decide)) (evm F1 A1 f1 (fun b h1 h2 => a1 b (Or.inr ⟨h1, h2⟩))) (by intro E F A al h; cases h.1) (by omega) (by omega) (by omega) (Nat.le_of_ble_eq_true rfl) (st := []) rfl (fun v2 F2 A2 al2 h2 => ?_)
  obtain ⟨e2, t2, ke, f2, a2, q2⟩ := h2
  obtain rfl := Sum.inl.inj e2
  have hA2 : A2 0 = S0 := (a2 0 (by omega) (Or.inl (by decide))).trans hA1
  have hx2 : QX F2 A2 := hQX F1 A9 F2 A2 q9 (fun b k hb => f2 b k (by omega) (by omega)) (fun b hb => (a2 b (by omega) (Or.inl hb)).trans (b9 b hb))
  have hM2 : KM al2 := fun a h1 h2 => (ke.2 a (by omega)).trans (hM a h1 h2)
  refine q_istore eL_1673 (by decide) rfl ?_
  refine q_aload_n eL_1675 rfl ?_
  refine q_callVP [] (M1 := mX12_thrown) eL_1676 mf_X12_thrown lk_L_103 (hM2 44 (by decide) (by decide)) (mo_thrown hM2 t2) (by omega) (by omega) (by omega) (Nat.le_of_ble_eq_true rfl) rfl ?_
  refine q_iload eL_1679 rfl ?_
  refine q_icmp_same (tgt := 1686) eL_1681 (by decide) ?_
  refine q_iload eL_1686 rfl ?_
  rcases R with _ | a9
  · refine q_if_ne (tgt := 1703) eL_1688 (by decide) ⟨by decide, by decide⟩ (fun c => ?_) (fun c => absurd c (by decide))
    refine q_goto (tgt := 1899) eL_1703 (by decide) ?_
    exact kk F2 A2 al2 _ _ ke hx2 q2 hA2
  · refine q_if_ne (tgt := 1703) eL_1688 (by decide) inR0 (fun c => absurd (show thE (some a9) = 0 from rfl) c) (fun c => ?_)
    refine q_aload_n eL_1691 rfl ?_
    refine q_iconst eL_1692 ?_
    refine q_lald eL_1693 ((ke.2 oo hot).trans hoo) (by decide) (by decide) ?_
    rw [show A2 oo (0 : Int).toNat = wr a9 from (congrFun (a2 oo hot (Or.inr h67)) 0).trans (w9 a9 rfl)]
    refine q_iload eL_1694 rfl ?_
    refine q_i2lw eL_1696 ?_
    refine q_lcmp eL_1697 (wr_L _) (wr_L _) ?_
    refine q_if_eq (tgt := 1703) eL_1698 (by decide) (cmpL_R _ _) (fun c => ?_) (fun c => absurd (cmpL_same _) c)
    refine q_goto (tgt := 1899) eL_1703 (by decide) ?_
    exact kk F2 A2 al2 _ _ ke hx2 q2 hA2
set_option maxRecDepth 20000 in
theorem st_mend {S0 : Nat → Int} {n0 i oo nc ns dx cx sx dm cm sm D mc ms : Nat} {R : Option Int} {QX QM : HF → HA → Prop} {l5 l6 : Option LV} {F : HF} {A : HA} {al : AL} {Post : PO}
    (hK : KX al) (hM : KM al) (hs : al.1 0 = (4, n0)) (hoo : al.1 oo = (2, 1)) (h67 : 67 ≤ oo) (hot : oo < al.2) (hA0 : A 0 = S0) (hi : i + 6 ≤ n0) (hn0 : n0 ≤ 3072)
    (hD : 60 ≤ D) (hdx : dx ≤ 57) (hdm : dm ≤ 57) (hmc : nc + cx + cm ≤ mc) (hms : ns + sx + sm ≤ ms)
    (hQX : ∀ (F1 : HF) (A1 : HA) (F2 : HF) (A2 : HA), QX F1 A1 → (∀ b k, b < 44 → F2 b k = F1 b k) → (∀ b, b < 44 → A2 b = A1 b) → QX F2 A2)
    (evx : QE dx cx sx mX11_mend (vA 1 :: [vI (S0 ((i : Int) + 1).toNat)]) F A al (PXR eN R F A al QX))
    (evm : ∀ (F1 : HF) (A1 : HA), (∀ b k, 44 ≤ b → F1 b k = F b k) → (∀ b, 44 ≤ b → b < 67 → A1 b = A b) → QE dm cm sm mX12_mend (vA 44 :: [vI (S0 ((i : Int) + 1).toNat)]) F1 A1 al (PMR R F1 A1 al QM))
    (kk : ∀ (F2 : HF) (A2 : HA) (al2 : AL) (l5 l6 : Option LV), KE al.2 al al2 → QX F2 A2 → QM F2 A2 → A2 0 = S0 → QW mL_law D mc ms Post (nc + cx + cm) (ns + sx + sm) 1899 [some (vA 0), some (vA 1), some (vA 44), some (vA oo), some (vI (i : Nat)), l5, l6] [] F2 A2 al2) :
    QW mL_law D mc ms Post nc ns 1706 [some (vA 0), some (vA 1), some (vA 44), some (vA oo), some (vI (i : Nat)), l5, l6] [] F A al := by
  refine q_aload_n eL_1706 rfl ?_
  refine q_aload_n eL_1707 rfl ?_
  refine q_iload eL_1708 rfl ?_
  refine q_iconst eL_1710 ?_
  refine q_iadd eL_1711 ?_
  refine q_sldE eL_1712 hA0 hs (by omega) (by omega) ?_
  refine q_aload_n eL_1713 rfl ?_
  refine q_callSW [vA 1, vI (S0 ((i : Int) + 1).toNat), vA oo] (M1 := mL_mend) eL_1714 mfw_mend lkw_mend (lw_mend (D := 58) hK hoo h67 (by omega) evx) nt_PW (by omega) (by omega) (by omega) (Nat.le_of_ble_eq_true rfl) (st := []) rfl (fun v1 F1 A1 al1 h1 => ?_)
  obtain ⟨e1, rfl, f1, a1, ⟨A9, q9, b9⟩, w9⟩ := h1
  obtain rfl := Sum.inl.inj e1
  have hA1 : A1 0 = S0 := (a1 0 (Or.inl rfl)).trans hA0
  refine q_istore eL_1717 (by decide) rfl ?_
  refine q_aload_n eL_1719 rfl ?_
  refine q_aload_n eL_1720 rfl ?_
  refine q_iload eL_1721 rfl ?_
  refine q_iconst eL_1723 ?_
  refine q_iadd eL_1724 ?_
  refine q_sldE eL_1725 hA1 hs (by omega) (by omega) ?_
  refine q_callV [vI (S0 ((i : Int) + 1).toNat)] (M1 := mX12_mend) eL_1726 mf_X12_mend lk_L_184 (hM 44 (by decide) (by decide)) (evm F1 A1 f1 (fun b h1 h2 => a1 b (Or.inr ⟨h1, h2⟩))) (by intro E F A al h; cases h.1) (by omega) (by omega) (by omega) (Nat.le_of_ble_eq_true rfl) (st := []) rfl (fun v2 F2 A2 al2 h2 => ?_)
  obtain ⟨e2, t2, ke, f2, a2, q2⟩ := h2
  obtain rfl := Sum.inl.inj e2
  have hA2 : A2 0 = S0 := (a2 0 (by omega) (Or.inl (by decide))).trans hA1
  have hx2 : QX F2 A2 := hQX F1 A9 F2 A2 q9 (fun b k hb => f2 b k (by omega) (by omega)) (fun b hb => (a2 b (by omega) (Or.inl hb)).trans (b9 b hb))
  have hM2 : KM al2 := fun a h1 h2 => (ke.2 a (by omega)).trans (hM a h1 h2)
  refine q_istore eL_1729 (by decide) rfl ?_
  refine q_aload_n eL_1731 rfl ?_
  refine q_callVP [] (M1 := mX12_thrown) eL_1732 mf_X12_thrown lk_L_103 (hM2 44 (by decide) (by decide)) (mo_thrown hM2 t2) (by omega) (by omega) (by omega) (Nat.le_of_ble_eq_true rfl) rfl ?_
  refine q_iload eL_1735 rfl ?_
  refine q_icmp_same (tgt := 1742) eL_1737 (by decide) ?_
  refine q_iload eL_1742 rfl ?_
  rcases R with _ | a9
  · refine q_if_ne (tgt := 1759) eL_1744 (by decide) ⟨by decide, by decide⟩ (fun c => ?_) (fun c => absurd c (by decide))
    refine q_goto (tgt := 1899) eL_1759 (by decide) ?_
    exact kk F2 A2 al2 _ _ ke hx2 q2 hA2
  · refine q_if_ne (tgt := 1759) eL_1744 (by decide) inR0 (fun c => absurd (show thE (some a9) = 0 from rfl) c) (fun c => ?_)
    refine q_aload_n eL_1747 rfl ?_
    refine q_iconst eL_1748 ?_
    refine q_lald eL_1749 ((ke.2 oo hot).trans hoo) (by decide) (by decide) ?_
    rw [show A2 oo (0 : Int).toNat = wr a9 from (congrFun (a2 oo hot (Or.inr h67)) 0).trans (w9 a9 rfl)]
    refine q_iload eL_1750 rfl ?_
    refine q_i2lw eL_1752 ?_
    refine q_lcmp eL_1753 (wr_L _) (wr_L _) ?_
    refine q_if_eq (tgt := 1759) eL_1754 (by decide) (cmpL_R _ _) (fun c => ?_) (fun c => absurd (cmpL_same _) c)
    refine q_goto (tgt := 1899) eL_1759 (by decide) ?_
    exact kk F2 A2 al2 _ _ ke hx2 q2 hA2
set_option maxRecDepth 20000 in
theorem st_nearest {S0 : Nat → Int} {n0 i oo nc ns dx cx sx dm cm sm D mc ms : Nat} {R : Option Int} {QX QM : HF → HA → Prop} {l5 l6 : Option LV} {F : HF} {A : HA} {al : AL} {Post : PO}
    (hK : KX al) (hM : KM al) (hs : al.1 0 = (4, n0)) (hoo : al.1 oo = (2, 1)) (h67 : 67 ≤ oo) (hot : oo < al.2) (hA0 : A 0 = S0) (hi : i + 6 ≤ n0) (hn0 : n0 ≤ 3072)
    (hD : 60 ≤ D) (hdx : dx ≤ 57) (hdm : dm ≤ 57) (hmc : nc + cx + cm ≤ mc) (hms : ns + sx + sm ≤ ms)
    (hQX : ∀ (F1 : HF) (A1 : HA) (F2 : HF) (A2 : HA), QX F1 A1 → (∀ b k, b < 44 → F2 b k = F1 b k) → (∀ b, b < 44 → A2 b = A1 b) → QX F2 A2)
    (evx : QE dx cx sx mX11_nearest (vA 1 :: [vI (S0 ((i : Int) + 1).toNat)]) F A al (PXR eN R F A al QX))
    (evm : ∀ (F1 : HF) (A1 : HA), (∀ b k, 44 ≤ b → F1 b k = F b k) → (∀ b, 44 ≤ b → b < 67 → A1 b = A b) → QE dm cm sm mX12_nearest (vA 44 :: [vI (S0 ((i : Int) + 1).toNat)]) F1 A1 al (PMR R F1 A1 al QM))
    (kk : ∀ (F2 : HF) (A2 : HA) (al2 : AL) (l5 l6 : Option LV), KE al.2 al al2 → QX F2 A2 → QM F2 A2 → A2 0 = S0 → QW mL_law D mc ms Post (nc + cx + cm) (ns + sx + sm) 1899 [some (vA 0), some (vA 1), some (vA 44), some (vA oo), some (vI (i : Nat)), l5, l6] [] F2 A2 al2) :
    QW mL_law D mc ms Post nc ns 1762 [some (vA 0), some (vA 1), some (vA 44), some (vA oo), some (vI (i : Nat)), l5, l6] [] F A al := by
  refine q_aload_n eL_1762 rfl ?_
  refine q_aload_n eL_1763 rfl ?_
  refine q_iload eL_1764 rfl ?_
  refine q_iconst eL_1766 ?_
  refine q_iadd eL_1767 ?_
  refine q_sldE eL_1768 hA0 hs (by omega) (by omega) ?_
  refine q_aload_n eL_1769 rfl ?_
  refine q_callSW [vA 1, vI (S0 ((i : Int) + 1).toNat), vA oo] (M1 := mL_nearest) eL_1770 mfw_nearest lkw_nearest (lw_nearest (D := 58) hK hoo h67 (by omega) evx) nt_PW (by omega) (by omega) (by omega) (Nat.le_of_ble_eq_true rfl) (st := []) rfl (fun v1 F1 A1 al1 h1 => ?_)
  obtain ⟨e1, rfl, f1, a1, ⟨A9, q9, b9⟩, w9⟩ := h1
  obtain rfl := Sum.inl.inj e1
  have hA1 : A1 0 = S0 := (a1 0 (Or.inl rfl)).trans hA0
  refine q_istore eL_1773 (by decide) rfl ?_
  refine q_aload_n eL_1775 rfl ?_
  refine q_aload_n eL_1776 rfl ?_
  refine q_iload eL_1777 rfl ?_
  refine q_iconst eL_1779 ?_
  refine q_iadd eL_1780 ?_
  refine q_sldE eL_1781 hA1 hs (by omega) (by omega) ?_
  refine q_callV [vI (S0 ((i : Int) + 1).toNat)] (M1 := mX12_nearest) eL_1782 mf_X12_nearest lk_L_187 (hM 44 (by decide) (by decide)) (evm F1 A1 f1 (fun b h1 h2 => a1 b (Or.inr ⟨h1, h2⟩))) (by intro E F A al h; cases h.1) (by omega) (by omega) (by omega) (Nat.le_of_ble_eq_true rfl) (st := []) rfl (fun v2 F2 A2 al2 h2 => ?_)
  obtain ⟨e2, t2, ke, f2, a2, q2⟩ := h2
  obtain rfl := Sum.inl.inj e2
  have hA2 : A2 0 = S0 := (a2 0 (by omega) (Or.inl (by decide))).trans hA1
  have hx2 : QX F2 A2 := hQX F1 A9 F2 A2 q9 (fun b k hb => f2 b k (by omega) (by omega)) (fun b hb => (a2 b (by omega) (Or.inl hb)).trans (b9 b hb))
  have hM2 : KM al2 := fun a h1 h2 => (ke.2 a (by omega)).trans (hM a h1 h2)
  refine q_istore eL_1785 (by decide) rfl ?_
  refine q_aload_n eL_1787 rfl ?_
  refine q_callVP [] (M1 := mX12_thrown) eL_1788 mf_X12_thrown lk_L_103 (hM2 44 (by decide) (by decide)) (mo_thrown hM2 t2) (by omega) (by omega) (by omega) (Nat.le_of_ble_eq_true rfl) rfl ?_
  refine q_iload eL_1791 rfl ?_
  refine q_icmp_same (tgt := 1798) eL_1793 (by decide) ?_
  refine q_iload eL_1798 rfl ?_
  rcases R with _ | a9
  · refine q_if_ne (tgt := 1815) eL_1800 (by decide) ⟨by decide, by decide⟩ (fun c => ?_) (fun c => absurd c (by decide))
    refine q_goto (tgt := 1899) eL_1815 (by decide) ?_
    exact kk F2 A2 al2 _ _ ke hx2 q2 hA2
  · refine q_if_ne (tgt := 1815) eL_1800 (by decide) inR0 (fun c => absurd (show thE (some a9) = 0 from rfl) c) (fun c => ?_)
    refine q_aload_n eL_1803 rfl ?_
    refine q_iconst eL_1804 ?_
    refine q_lald eL_1805 ((ke.2 oo hot).trans hoo) (by decide) (by decide) ?_
    rw [show A2 oo (0 : Int).toNat = wr a9 from (congrFun (a2 oo hot (Or.inr h67)) 0).trans (w9 a9 rfl)]
    refine q_iload eL_1806 rfl ?_
    refine q_i2lw eL_1808 ?_
    refine q_lcmp eL_1809 (wr_L _) (wr_L _) ?_
    refine q_if_eq (tgt := 1815) eL_1810 (by decide) (cmpL_R _ _) (fun c => ?_) (fun c => absurd (cmpL_same _) c)
    refine q_goto (tgt := 1899) eL_1815 (by decide) ?_
    exact kk F2 A2 al2 _ _ ke hx2 q2 hA2
set_option maxRecDepth 20000 in
theorem st_say {S0 : Nat → Int} {n0 i oo nc ns dx cx sx dm cm sm D mc ms : Nat} {R : Option Int} {QX QM : HF → HA → Prop} {l5 l6 : Option LV} {F : HF} {A : HA} {al : AL} {Post : PO}
    (hK : KX al) (hM : KM al) (hs : al.1 0 = (4, n0)) (hoo : al.1 oo = (2, 1)) (h67 : 67 ≤ oo) (hot : oo < al.2) (hA0 : A 0 = S0) (hi : i + 6 ≤ n0) (hn0 : n0 ≤ 3072)
    (hD : 60 ≤ D) (hdx : dx ≤ 57) (hdm : dm ≤ 57) (hmc : nc + cx + cm ≤ mc) (hms : ns + sx + sm ≤ ms)
    (hQX : ∀ (F1 : HF) (A1 : HA) (F2 : HF) (A2 : HA), QX F1 A1 → (∀ b k, b < 44 → F2 b k = F1 b k) → (∀ b, b < 44 → A2 b = A1 b) → QX F2 A2)
    (evx : QE dx cx sx mX11_say (vA 1 :: [vI (S0 ((i : Int) + 1).toNat)]) F A al (PXR eN R F A al QX))
    (evm : ∀ (F1 : HF) (A1 : HA), (∀ b k, 44 ≤ b → F1 b k = F b k) → (∀ b, 44 ≤ b → b < 67 → A1 b = A b) → QE dm cm sm mX12_say (vA 44 :: [vI (S0 ((i : Int) + 1).toNat)]) F1 A1 al (PMR R F1 A1 al QM))
    (kk : ∀ (F2 : HF) (A2 : HA) (al2 : AL) (l5 l6 : Option LV), KE al.2 al al2 → QX F2 A2 → QM F2 A2 → A2 0 = S0 → QW mL_law D mc ms Post (nc + cx + cm) (ns + sx + sm) 1899 [some (vA 0), some (vA 1), some (vA 44), some (vA oo), some (vI (i : Nat)), l5, l6] [] F2 A2 al2) :
    QW mL_law D mc ms Post nc ns 1818 [some (vA 0), some (vA 1), some (vA 44), some (vA oo), some (vI (i : Nat)), l5, l6] [] F A al := by
  refine q_aload_n eL_1818 rfl ?_
  refine q_aload_n eL_1819 rfl ?_
  refine q_iload eL_1820 rfl ?_
  refine q_iconst eL_1822 ?_
  refine q_iadd eL_1823 ?_
  refine q_sldE eL_1824 hA0 hs (by omega) (by omega) ?_
  refine q_aload_n eL_1825 rfl ?_
  refine q_callSW [vA 1, vI (S0 ((i : Int) + 1).toNat), vA oo] (M1 := mL_say) eL_1826 mfw_say lkw_say (lw_say (D := 58) hK hoo h67 (by omega) evx) nt_PW (by omega) (by omega) (by omega) (Nat.le_of_ble_eq_true rfl) (st := []) rfl (fun v1 F1 A1 al1 h1 => ?_)
  obtain ⟨e1, rfl, f1, a1, ⟨A9, q9, b9⟩, w9⟩ := h1
  obtain rfl := Sum.inl.inj e1
  have hA1 : A1 0 = S0 := (a1 0 (Or.inl rfl)).trans hA0
  refine q_istore eL_1829 (by decide) rfl ?_
  refine q_aload_n eL_1831 rfl ?_
  refine q_aload_n eL_1832 rfl ?_
  refine q_iload eL_1833 rfl ?_
  refine q_iconst eL_1835 ?_
  refine q_iadd eL_1836 ?_
  refine q_sldE eL_1837 hA1 hs (by omega) (by omega) ?_
  refine q_callV [vI (S0 ((i : Int) + 1).toNat)] (M1 := mX12_say) eL_1838 mf_X12_say lk_L_190 (hM 44 (by decide) (by decide)) (evm F1 A1 f1 (fun b h1 h2 => a1 b (Or.inr ⟨h1, h2⟩))) (by intro E F A al h; cases h.1) (by omega) (by omega) (by omega) (Nat.le_of_ble_eq_true rfl) (st := []) rfl (fun v2 F2 A2 al2 h2 => ?_)
  obtain ⟨e2, t2, ke, f2, a2, q2⟩ := h2
  obtain rfl := Sum.inl.inj e2
  have hA2 : A2 0 = S0 := (a2 0 (by omega) (Or.inl (by decide))).trans hA1
  have hx2 : QX F2 A2 := hQX F1 A9 F2 A2 q9 (fun b k hb => f2 b k (by omega) (by omega)) (fun b hb => (a2 b (by omega) (Or.inl hb)).trans (b9 b hb))
  have hM2 : KM al2 := fun a h1 h2 => (ke.2 a (by omega)).trans (hM a h1 h2)
  refine q_istore eL_1841 (by decide) rfl ?_
  refine q_aload_n eL_1843 rfl ?_
  refine q_callVP [] (M1 := mX12_thrown) eL_1844 mf_X12_thrown lk_L_103 (hM2 44 (by decide) (by decide)) (mo_thrown hM2 t2) (by omega) (by omega) (by omega) (Nat.le_of_ble_eq_true rfl) rfl ?_
  refine q_iload eL_1847 rfl ?_
  refine q_icmp_same (tgt := 1854) eL_1849 (by decide) ?_
  refine q_iload eL_1854 rfl ?_
  rcases R with _ | a9
  · refine q_if_ne (tgt := 1871) eL_1856 (by decide) ⟨by decide, by decide⟩ (fun c => ?_) (fun c => absurd c (by decide))
    refine q_goto (tgt := 1899) eL_1871 (by decide) ?_
    exact kk F2 A2 al2 _ _ ke hx2 q2 hA2
  · refine q_if_ne (tgt := 1871) eL_1856 (by decide) inR0 (fun c => absurd (show thE (some a9) = 0 from rfl) c) (fun c => ?_)
    refine q_aload_n eL_1859 rfl ?_
    refine q_iconst eL_1860 ?_
    refine q_lald eL_1861 ((ke.2 oo hot).trans hoo) (by decide) (by decide) ?_
    rw [show A2 oo (0 : Int).toNat = wr a9 from (congrFun (a2 oo hot (Or.inr h67)) 0).trans (w9 a9 rfl)]
    refine q_iload eL_1862 rfl ?_
    refine q_i2lw eL_1864 ?_
    refine q_lcmp eL_1865 (wr_L _) (wr_L _) ?_
    refine q_if_eq (tgt := 1871) eL_1866 (by decide) (cmpL_R _ _) (fun c => ?_) (fun c => absurd (cmpL_same _) c)
    refine q_goto (tgt := 1899) eL_1871 (by decide) ?_
    exact kk F2 A2 al2 _ _ ke hx2 q2 hA2
set_option maxRecDepth 20000 in
theorem st_said {S0 : Nat → Int} {n0 i oo nc ns dx cx sx dm cm sm D mc ms : Nat} {v0 : Int} {QX QM : HF → HA → Prop} {l5 l6 : Option LV} {F : HF} {A : HA} {al : AL} {Post : PO}
    (hK : KX al) (hM : KM al) (hs : al.1 0 = (4, n0)) (hoo : al.1 oo = (2, 1)) (h67 : 67 ≤ oo) (hot : oo < al.2) (hA0 : A 0 = S0) (hi : i + 6 ≤ n0) (hn0 : n0 ≤ 3072)
    (hD : 60 ≤ D) (hdx : dx ≤ 57) (hdm : dm ≤ 57) (hmc : nc + cx + cm ≤ mc) (hms : ns + sx + sm ≤ ms)
    (hQX : ∀ (F1 : HF) (A1 : HA) (F2 : HF) (A2 : HA), QX F1 A1 → (∀ b k, b < 44 → F2 b k = F1 b k) → (∀ b, b < 44 → A2 b = A1 b) → QX F2 A2)
    (evx : QE dx cx sx mX11_said (vA 1 :: [vI (S0 ((i : Int) + 1).toNat)]) F A al (PXR eN (some v0) F A al QX))
    (evm : ∀ (F1 : HF) (A1 : HA), (∀ b k, 44 ≤ b → F1 b k = F b k) → (∀ b, 44 ≤ b → b < 67 → A1 b = A b) → QE dm cm sm mX12_said (vA 44 :: [vI (S0 ((i : Int) + 1).toNat)]) F1 A1 al (PMR (some v0) F1 A1 al QM))
    (kk : ∀ (F2 : HF) (A2 : HA) (al2 : AL) (l5 l6 : Option LV), KE al.2 al al2 → QX F2 A2 → QM F2 A2 → A2 0 = S0 → QW mL_law D mc ms Post (nc + cx + cm) (ns + sx + sm) 1899 [some (vA 0), some (vA 1), some (vA 44), some (vA oo), some (vI (i : Nat)), l5, l6] [] F2 A2 al2) :
    QW mL_law D mc ms Post nc ns 1874 [some (vA 0), some (vA 1), some (vA 44), some (vA oo), some (vI (i : Nat)), l5, l6] [] F A al := by
  refine q_aload_n eL_1874 rfl ?_
  refine q_aload_n eL_1875 rfl ?_
  refine q_iload eL_1876 rfl ?_
  refine q_iconst eL_1878 ?_
  refine q_iadd eL_1879 ?_
  refine q_sldE eL_1880 hA0 hs (by omega) (by omega) ?_
  refine q_callV [vI (S0 ((i : Int) + 1).toNat)] (M1 := mX11_said) eL_1881 mf_X11_said lk_L_191 (hK 1 (by decide) (by decide)) evx (by intro E F A al h; cases h.1) (by omega) (by omega) (by omega) (Nat.le_of_ble_eq_true rfl) (st := []) rfl (fun v1 F1 A1 al1 h1 => ?_)
  obtain ⟨e1, rfl, f1, a1, q9⟩ := h1
  cases e1
  have hA1 : A1 0 = S0 := (a1 0 (Or.inl rfl)).trans hA0
  refine q_aload_n eL_1884 rfl ?_
  refine q_aload_n eL_1885 rfl ?_
  refine q_iload eL_1886 rfl ?_
  refine q_iconst eL_1888 ?_
  refine q_iadd eL_1889 ?_
  refine q_sldE eL_1890 hA1 hs (by omega) (by omega) ?_
  refine q_callV [vI (S0 ((i : Int) + 1).toNat)] (M1 := mX12_said) eL_1891 mf_X12_said lk_L_194 (hM 44 (by decide) (by decide)) (evm F1 A1 f1 (fun b h1 _ => a1 b (Or.inr h1))) (by intro E F A al h; cases h.1) (by omega) (by omega) (by omega) (Nat.le_of_ble_eq_true rfl) (st := [vI v0]) rfl (fun v2 F2 A2 al2 h2 => ?_)
  obtain ⟨e2, t2, ke, f2, a2, q2⟩ := h2
  obtain rfl := Sum.inl.inj e2
  have hA2 : A2 0 = S0 := (a2 0 (by omega) (Or.inl (by decide))).trans hA1
  have hx2 : QX F2 A2 := hQX F1 A1 F2 A2 q9 (fun b k hb => f2 b k (by omega) (by omega)) (fun b hb => a2 b (by omega) (Or.inl hb))
  refine q_icmp_same (tgt := 1899) eL_1894 (by decide) ?_
  exact kk F2 A2 al2 _ _ ke hx2 q2 hA2

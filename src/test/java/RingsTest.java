/** Promises 19 to 21: rings cleared, a child, falls. */
public final class RingsTest {
    private static final Check check = new Check();

    public static void main(String[] args) {
        rings();
        orderOfRings();
        children();
        fallsOfLoans();
        fallsOfPersons();
        check.finish("RingsTest");
    }

    private static void rings() {
        YearsLent x = Check.laid("p900;p900;p900;p900;r50;");
        due("without LOANS", x.cleared(-1, -1), 0);
        x.lend(0, 1, 10, 20);
        due("no ring", x.cleared(-1, -1), 0);
        due("1 OWES 0", x.cleared(1, 0), 10);
        due("0 OWES 1", x.cleared(0, 1), 0);
        x.lend(1, 2, 30, 20);
        x.lend(2, 3, 20, 20);
        x.lend(3, 0, 15, 20);
        x.lend(0, 1, 7, 20);
        due("four, 15 each", x.cleared(-1, -1), 60);
        due("1 OWES 0 by two LOANS", x.cleared(1, 0), 2);
        due("2 OWES 1", x.cleared(2, 1), 15);
        due("3 OWES 2", x.cleared(3, 2), 5);
        due("0 OWES 3", x.cleared(0, 3), 0);
        due("LOANS stay as they are", x.count(1) * 100 + x.loan(0, 2), 510);
        for (int i = 0; i < 4; i++) {
            due("to itself", x.cleared(i, i), 0);
        }
        int[][] bad = {{-1, 0}, {0, -1}, {4, 0}, {0, 4}, {-2, -2}, {-1, -2}, {Integer.MIN_VALUE, Integer.MAX_VALUE}};
        for (int[] c : bad) {
            due("cleared" + java.util.Arrays.toString(c), x.cleared(c[0], c[1]), YearsLent.BAD);
        }
        YearsLent one = Check.laid("p5;");
        due("one alone", one.cleared(-1, -1), 0);
        due("one alone to itself", one.cleared(0, 0), 0);
    }

    private static YearsLent owing(int[]... debts) {
        YearsLent x = Check.laid("p900;p900;p900;p900;p900;p900;r0;");
        for (int[] d : debts) {
            x.lend(d[1], d[0], d[2], 50);
        }
        return x;
    }

    private static void orderOfRings() {
        YearsLent x = owing(new int[] {0, 1, 10}, new int[] {1, 2, 10}, new int[] {2, 0, 10}, new int[] {2, 1, 4});
        due("the shorter ring first", x.cleared(-1, -1), 4 * 2 + 6 * 3);
        due("2 OWES 0", x.cleared(2, 0), 4);
        x = owing(new int[] {0, 2, 5}, new int[] {2, 0, 9}, new int[] {0, 1, 3}, new int[] {1, 0, 3}, new int[] {1, 2, 7},
            new int[] {2, 1, 7});
        due("all of two", x.cleared(-1, -1), 6 + 10 + 14);
        due("2 OWES 0", x.cleared(2, 0), 4);
        // 0-1-3, 0-2-3: both go through what 3 owes 0.
        x = owing(new int[] {0, 2, 6}, new int[] {2, 3, 6}, new int[] {0, 1, 5}, new int[] {1, 3, 5}, new int[] {3, 0, 7});
        due("the ring of the lower second one first", x.cleared(0, 1), 0);
        due("and what is left for the other", x.cleared(0, 2), 4);
        due("in all", x.cleared(-1, -1), 21);
        // 0-3-1 comes behind 0-1-3: as a row, not as a set.
        x = owing(new int[] {0, 3, 6}, new int[] {3, 1, 6}, new int[] {1, 0, 6}, new int[] {0, 1, 2}, new int[] {1, 3, 2},
            new int[] {3, 0, 2});
        due("rings of two go first", x.cleared(-1, -1), 2 * 2 * 3 + 4 * 3);
        x = owing(new int[] {5, 4, 9}, new int[] {4, 3, 9}, new int[] {3, 2, 9}, new int[] {2, 1, 9}, new int[] {1, 0, 9},
            new int[] {0, 5, 8});
        due("all six", x.cleared(-1, -1), 48);
        due("5 OWES 4", x.cleared(5, 4), 1);
        due("0 OWES 5", x.cleared(0, 5), 0);
        x.week();
        due("the n of LOANS alone", x.person(0, 2), 8);
    }

    private static void children() {
        YearsLent x = Check.laid("p10;p10;p10;");
        due("of several the lowest", x.child(1, 0) * 100 + x.child(1, 1) * 10 + x.child(1, 2), 100);
        due("of several the lowest", x.child(2, 0) * 100 + x.child(2, 1) * 10 + x.child(2, 2), 110);
        due("child(3, ..)", x.child(3, 0) * 100 + x.child(3, 1) * 10 + x.child(3, 2), 111);
        due("child(27, 0)", x.child(27, 0), 9);
        due("0 would give 10", x.child(28, 1), YearsLent.NO);
        due("more than all have", x.child(99, 1), YearsLent.NO);
        due("nothing is given by asking", x.person(0, 0), 10);
        for (int wrong : new int[] {0, -1, 100, Integer.MIN_VALUE, Integer.MAX_VALUE}) {
            due("child(" + wrong + ", 0)", x.child(wrong, 0), YearsLent.BAD);
        }
        due("child(1, -1)", x.child(1, -1), YearsLent.BAD);
        due("child(1, 3)", x.child(1, 3), YearsLent.BAD);
        due("BAD ahead of NO", x.child(99, 3), YearsLent.BAD);
        x = Check.laid("p2;p51;p1;");
        due("2, 51, 1 by 50: 1 of 2 for 0, 47 for 1, 0 for 2; rests 46, 12, 50 of 54", x.child(50, 0), YearsLent.NO);
        due("2, 51, 1 by 20: rests 40, 48, 20 of 54", x.child(20, 0), 1);
        due("child(20, 1)", x.child(20, 1), 19);
        due("child(20, 2)", x.child(20, 2), 0);
        x.week();
        due("one who is DEAD", x.child(20, 2), YearsLent.BAD);
        due("1, 50 by 20: rests 20, 31 of 51", x.child(20, 0), 0);
        due("1, 50 by 20", x.child(20, 1), 20);
        due("1, 50 by 50: 0 would give all", x.child(50, 1), YearsLent.NO);
        x = Check.laid("p1;");
        due("all it has", x.child(1, 0), YearsLent.NO);
        x = Check.laid("p99;");
        due("98 of 99", x.child(98, 0), 98);
        due("99 of 99", x.child(99, 0), YearsLent.NO);
    }

    private static void fallsOfLoans() {
        YearsLent x = Check.laid("p100;p60;p50;r0;n1;");
        x.lend(0, 1, 50, 10);
        x.lend(1, 2, 30, 20);
        x.lend(2, 0, 5, 15);
        due("without 0: none to pay 0, and 0 pays none", x.falls(0, 0), 2);
        due("without 1: 0's and 1's", x.falls(1, 0), 2);
        due("without 2: 1's and 2's, 0's stays whole", x.falls(2, 0), 2);
        due("nothing is done by asking", x.person(0, 0) * 100 + x.count(1), 5503);
        x = Check.laid("p100;p20;r0;n1;");
        x.lend(0, 1, 50, 80);
        due("what is never PAID can't be less", x.falls(1, 0), 0);
        due("nor by the lender", x.falls(0, 0), 0);
        x = Check.laid("p100;p20;p90;r0;k3;n1;");
        x.lend(0, 1, 50, 5);
        due("PLEDGED: another gives it", x.falls(1, 0), 0);
        x = Check.laid("p100;p20;p30;r0;k3;n1;");
        x.lend(0, 1, 50, 5);
        due("PLEDGED: another gives part of it", x.falls(1, 0), 1);
        x = Check.laid("p999;p5;r0;n1;");
        x.lend(0, 1, 100, 200);
        x.lend(0, 1, 200, 200);
        due("LOANS due in 200", x.falls(1, 0), 2);
        x.week();
        due("a LOAN's place changes nothing", x.falls(1, 0), 2);
        x = Check.laid("p100;p3;");
        Check.weeks(x, 3);
        due("one who is DEAD", x.falls(1, 0), YearsLent.BAD);
        for (int wrong : new int[] {-1, 2, Integer.MIN_VALUE, Integer.MAX_VALUE}) {
            due("falls(" + wrong + ", 0)", x.falls(wrong, 0), YearsLent.BAD);
            due("falls(0, " + wrong + ")", x.falls(0, wrong), YearsLent.BAD);
        }
    }

    private static void fallsOfPersons() {
        YearsLent x = Check.laid("p500;p20;r10;n1;");
        x.lend(0, 1, 200, 10);
        due("0 is DEAD in the 300th", x.falls(1, 1), 0);
        due("1, which gives nothing back, lives longer", x.falls(0, 1), YearsLent.NONE);
        x = Check.laid("p501;p20;r10;n1;");
        x.lend(0, 1, 200, 10);
        due("0 is DEAD in the 301st", x.falls(1, 1), YearsLent.NONE);
        x = Check.laid("p90;p40;p90;p90;r0;n1;");
        x.lend(0, 1, 20, 10);
        x.lend(2, 1, 30, 10);
        x.lend(3, 1, 30, 10);
        due("the one who is DEAD first, of several the lowest", x.falls(1, 1), 2);
        x = Check.laid("p90;p90;r0;n1;");
        x.lend(0, 1, 20, 10);
        due("itself does not count", x.falls(1, 1), 0);
        due("none", x.falls(0, 1), YearsLent.NONE);
        x = Check.laid("p1;p90;p90;r0;n1;");
        x.lend(1, 2, 20, 10);
        x.week();
        due("one who is DEAD already is not DEAD earlier", x.falls(2, 1), 1);
    }

    private static void due(String call, long got, long want) {
        check.due(call, got, want);
    }
}

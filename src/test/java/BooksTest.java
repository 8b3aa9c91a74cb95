/** Promises 6 to 13: persons, loans, the notary, weeks, deeds undone, who dies when, books that run. */
public final class BooksTest {
    private static final Check check = new Check();

    public static void main(String[] args) {
        persons();
        notary();
        lending();
        payments();
        payingFirst();
        pledges();
        undoing();
        dying();
        running();
        check.finish("BooksTest");
    }

    private static void persons() {
        YearsLent x = Check.laid("p100;p90;p80;r25;");
        due("lend", x.lend(0, 1, 10, 9), 1);
        due("lend", x.lend(2, 1, 15, 8), 2);
        due("lend", x.lend(1, 0, 7, 7), 3);
        due("WEEKS of 0", x.person(0, 0), 97);
        due("WEEKS of 1", x.person(1, 0), 108);
        due("WEEKS of 2", x.person(2, 0), 65);
        due("1 OWES all, without INTEREST", x.person(1, 2), 25);
        due("0 OWES all", x.person(0, 2), 7);
        due("2 OWES all", x.person(2, 2), 0);
        for (int wrong : new int[] {-1, 3, 6, Integer.MIN_VALUE, Integer.MAX_VALUE}) {
            due("person(" + wrong + ", 0)", x.person(wrong, 0), YearsLent.BAD);
            due("person(0, " + wrong + ")", x.person(0, wrong), YearsLent.BAD);
            due("loan(" + wrong + ", 0)", x.loan(wrong, 0), YearsLent.BAD);
        }
        int[][] loans = {{0, 1, 10, 9}, {2, 1, 15, 8}, {1, 0, 7, 7}};
        for (int k = 0; k < 3; k++) {
            for (int what = 0; what < 4; what++) {
                due("loan(" + k + ", " + what + ")", x.loan(k, what), loans[k][what]);
            }
        }
        due("loan(0, 4)", x.loan(0, 4), YearsLent.BAD);
        due("loan(0, -1)", x.loan(0, -1), YearsLent.BAD);
        Check.weeks(x, 8);
        due("LOANS left", x.count(1), 1);
        due("loan(0, 0)", x.loan(0, 0), 0);
        due("loan(0, 2)", x.loan(0, 2), 10);
        due("loan(0, 3)", x.loan(0, 3), 1);
        due("loan(1, 0)", x.loan(1, 0), YearsLent.BAD);
    }

    private static void notary() {
        YearsLent x = Check.laid("p999;p200;p1;r99;");
        due("lend(0, 1, 100, 50)", x.lend(0, 1, 100, 50), 1);
        due("a LOAN due later than d", x.notary(0, 1, 100, 49), 1);
        due("a LOAN due in d", x.notary(0, 1, 100, 50), 0);
        due("LOANS from another do not count", x.notary(1, 0, 100, 50), 1);
        due("a WEEK is left to I", x.notary(1, 0, 200, 1), 1);
        due("I's WEEKS are n", x.notary(2, 0, 1, 1), 0);
        int[][] bad = {{-1, 0, 1, 1}, {3, 0, 1, 1}, {0, -1, 1, 1}, {0, 3, 1, 1}, {0, 0, 1, 1}, {0, 1, 0, 1}, {0, 1, 201, 1},
            {0, 1, 1, 0}, {0, 1, 1, 201}, {0, 1, -5, 1}, {0, 1, 1, -5},
            {Integer.MAX_VALUE, Integer.MIN_VALUE, Integer.MAX_VALUE, Integer.MAX_VALUE}};
        for (int[] c : bad) {
            due("notary" + java.util.Arrays.toString(c), x.notary(c[0], c[1], c[2], c[3]), YearsLent.BAD);
            due("lend" + java.util.Arrays.toString(c), x.lend(c[0], c[1], c[2], c[3]), YearsLent.BAD);
        }
        x.week();
        due("2 is DEAD", x.person(2, 0), 0);
        due("of one who is DEAD", x.notary(2, 0, 1, 1), YearsLent.BAD);
        due("to one who is DEAD", x.notary(0, 2, 1, 1), YearsLent.BAD);
        x = Check.laid("p10;p10;r50;n1;");
        due("LAX, J will never give it back", x.notary(0, 1, 9, 200), 1);
        due("LAX, I's WEEKS are n", x.notary(0, 1, 10, 1), 0);
        x = Check.laid("p900;p900;r0;n2;");
        due("SILENT", x.notary(0, 1, 1, 1), 0);
        due("SILENT", x.lend(0, 1, 1, 1), YearsLent.NO);
        due("SILENT, BAD", x.notary(0, 1, 0, 1), YearsLent.BAD);
    }

    private static void lending() {
        YearsLent x = Check.laid("p900;p900;r0;");
        for (int k = 1; k <= 8; k++) {
            due("lend", x.lend(0, 1, 10 + k, 100), k);
        }
        due("a ninth", x.lend(0, 1, 1, 1), YearsLent.FULL);
        due("BAD ahead of FULL", x.lend(0, 0, 1, 1), YearsLent.BAD);
        due("nothing changes by that", x.count(1), 8);
        due("WEEKS of 0", x.person(0, 0), 784);
        due("WEEKS of 1", x.person(1, 0), 1016);
        x = Check.laid("p9;p900;r0;n1;");
        for (int k = 1; k <= 8; k++) {
            due("lend", x.lend(0, 1, 1, 100), k);
        }
        due("he says no, and it is FULL", x.lend(0, 1, 1, 1), YearsLent.NO);
        due("FULL", x.lend(1, 0, 1, 1), YearsLent.FULL);
        due("deeds that can be UNDONE", x.count(3), 6);
    }

    private static void payments() {
        YearsLent x = Check.laid("p50;p5;r50;n1;");
        x.lend(0, 1, 10, 5);
        Check.weeks(x, 4);
        due("not due yet", x.count(1), 1);
        due("week()", x.week(), 2);
        due("PLAIN: J keeps a WEEK", x.person(1, 0), 1);
        due("PLAIN: I has", x.person(0, 0), 44);
        due("PLAIN: LOST by I", x.person(0, 1), 6);
        due("PLAIN: LOST by J", x.person(1, 1), 0);
        due("the LOAN is no more", x.count(1), 0);
        due("week()", x.week(), 1);
        due("WEEKS do not fall below 0", x.week() * 10 + x.person(1, 0), 10);
        due("WEEKS gone by", x.count(6), 7);

        x = Check.laid("p50;p7;r50;k1;n1;");
        x.lend(0, 1, 10, 2);
        Check.weeks(x, 2);
        due("WHOLE: J's WEEKS are not more", x.person(1, 0), 15);
        due("WHOLE: LOST", x.person(0, 1), 15);
        x = Check.laid("p50;p8;r50;k1;n1;");
        x.lend(0, 1, 10, 2);
        Check.weeks(x, 2);
        due("WHOLE: J's WEEKS are more", x.person(1, 0), 1);
        due("WHOLE: I has", x.person(0, 0), 53);
        due("WHOLE: LOST", x.person(0, 1), 0);

        x = Check.laid("p10;p5;r10;n1;");
        x.lend(0, 1, 9, 3);
        due("I dies", x.week(), 1);
        Check.weeks(x, 2);
        due("I is DEAD: nothing is done", x.person(1, 0), 11);
        due("I is DEAD: I stays DEAD", x.person(0, 0), 0);
        due("I is DEAD: nothing is LOST", x.person(0, 1), 0);
        due("I is DEAD: the LOAN is no more", x.count(1), 0);

        x = Check.laid("p90;p2;r0;n1;");
        x.lend(0, 1, 3, 9);
        Check.weeks(x, 9);
        due("J is DEAD: it gives nothing", x.person(0, 0), 78);
        due("J is DEAD: LOST", x.person(0, 1), 3);

        x = Check.laid("p500;p500;r19;n1;");
        x.lend(0, 1, 5, 1);
        x.lend(0, 1, 21, 1);
        x.week();
        due("INTEREST of each LOAN is cut", x.person(0, 0), 499 + 3);
        x = Check.laid("p90;p50;p5;r0;n1;");
        x.lend(0, 1, 40, 1);
        x.lend(1, 2, 88, 1);
        x.week();
        due("in their order: 1 had 1 WEEK less 1 to give", x.person(0, 0), 49);
        due("LOST by 0", x.person(0, 1), 40);
        due("1 has, paid behind", x.person(1, 0), 89);
    }

    private static void payingFirst() {
        String persons = "p100;p1;p100;p100;r0;n1;";
        int[][] lostByKind = {{0, 0, 2}, {0, 0, 10}, {0, 0, 2}};
        for (int kind = 0; kind < 3; kind++) {
            YearsLent x = Check.laid(persons + "k" + kind + ";");
            x.lend(0, 1, 5, 2);
            x.lend(2, 1, 20, 2);
            x.lend(3, 1, 10, 2);
            Check.weeks(x, 2);
            due("kind " + kind + " LOST by 0", x.person(0, 1), lostByKind[kind][0]);
            due("kind " + kind + " LOST by 2", x.person(2, 1), lostByKind[kind][1]);
            due("kind " + kind + " LOST by 3", x.person(3, 1), lostByKind[kind][2]);
        }
        YearsLent x = Check.laid(persons + "k2;");
        x.lend(0, 1, 5, 6);
        x.lend(2, 1, 20, 6);
        x.lend(3, 1, 20, 6);
        x.lend(0, 1, 60, 20);
        x.lend(1, 2, 88, 7);
        Check.weeks(x, 6);
        due("FIRST: of several the first one", x.person(2, 1), 9);
        due("FIRST: the rest behind it", x.person(0, 1) * 100 + x.person(3, 1), 520);
        due("FIRST: what is not due stays", x.count(1), 2);
    }

    private static void pledges() {
        YearsLent x = Check.laid("p50;p1;p9;p90;r0;k3;n1;");
        x.lend(0, 1, 3, 6);
        Check.weeks(x, 6);
        due("PLEDGED: the lowest that is neither keeps a WEEK", x.person(2, 0), 1);
        due("PLEDGED: only one gives", x.person(3, 0), 84);
        due("PLEDGED: I has", x.person(0, 0), 43);
        due("PLEDGED: LOST", x.person(0, 1), 1);
        x = Check.laid("p5;p1;p90;p40;r0;k3;n1;");
        x.lend(3, 1, 9, 10);
        Check.weeks(x, 10);
        due("PLEDGED: a DEAD one is passed over", x.person(2, 0), 71);
        due("PLEDGED: I has", x.person(3, 0), 30);
        x = Check.laid("p90;p20;r50;k3;n1;");
        x.lend(0, 1, 20, 30);
        Check.weeks(x, 30);
        due("PLEDGED: there is no other", x.person(0, 1), 21);
        x = Check.laid("p90;p20;p50;r50;k3;n1;");
        x.lend(0, 1, 20, 5);
        Check.weeks(x, 5);
        due("PLEDGED: nothing lacks", x.person(2, 0), 45);
    }

    private static void undoing() {
        YearsLent x = Check.laid("p60;p40;r50;n1;");
        due("undo() of nothing", x.undo(), YearsLent.NO);
        x.lend(0, 1, 10, 2);
        x.week();
        x.lend(0, 1, 9, 9);
        x.lend(0, 1, 999, 9);
        x.week();
        due("that can be UNDONE", x.count(3), 4);
        due("LOANS", x.count(1), 1);
        due("undo() of a WEEK that paid", x.undo(), 3);
        due("LOANS are again", x.count(1), 2);
        due("loan(0, 3)", x.loan(0, 3), 1);
        due("WEEKS are again", x.person(0, 0), 40);
        due("gone by", x.count(6), 1);
        due("undo() of a LOAN", x.undo(), 2);
        due("WEEKS", x.person(0, 0) * 1000 + x.person(1, 0), 49049);
        due("undo() of a WEEK", x.undo(), 1);
        due("undo() of a LOAN", x.undo(), 0);
        due("WEEKS", x.person(0, 0) * 1000 + x.person(1, 0), 60040);
        due("undo() of nothing", x.undo(), YearsLent.NO);
        Check.weeks(x, 9);
        due("the last 6 can be", x.count(3), 6);
        due("undo()", x.undo(), 5);
        x.week();
        due("again 6", x.count(3), 6);
        for (int left = 5; left >= 0; left--) {
            due("undo()", x.undo(), left);
        }
        due("undo() of a seventh", x.undo(), YearsLent.NO);
        due("WEEKS gone by", x.count(6), 3);
        due("WEEKS", x.person(0, 0), 57);
        x = Check.laid("p50;p5;r50;n1;");
        x.lend(0, 1, 10, 1);
        x.tell(0, 1, 1, true);
        x.week();
        due("LOST", x.person(0, 1), 2);
        x.undo();
        due("LOST is UNDONE", x.person(0, 1), 0);
        due("TOLD is not", x.count(2), 1);
    }

    private static YearsLent heir(int secondHas, int secondGives) {
        YearsLent x = Check.laid("p999;p801;p" + secondHas + ";n1;r99;");
        for (int k = 0; k < 4; k++) {
            x.lend(1, 0, 200, 200);
        }
        x.lend(2, 0, 200, 200);
        x.lend(2, 0, secondGives, 200);
        return x;
    }

    private static void dying() {
        YearsLent x = heir(202, 1);
        due("0 has", x.person(0, 0), 2000);
        due("dies(0) in 2000", x.dies(0), 2000);
        due("dies(1)", x.dies(1), 1);
        due("run(1999, 0, 0)", x.run(1999, 0, 0), 1);
        due("run(2000, 0, 0)", x.run(2000, 0, 0), 0);
        x = heir(203, 2);
        due("0 has", x.person(0, 0), 2001);
        due("dies(0) in 2001", x.dies(0), YearsLent.NONE);
        due("run(2000, 0, 0)", x.run(2000, 0, 0), 1);
        due("run(2000, 0, 2)", x.run(2000, 0, 2), 1);
        due("nothing is done by asking", x.count(6) * 100 + x.count(1), 6);
        x.week();
        due("dies(0) a WEEK later", x.dies(0), 2000);
        due("dies(1), who is DEAD", x.dies(1), 0);
        for (int wrong : new int[] {-1, 3, Integer.MIN_VALUE, Integer.MAX_VALUE}) {
            due("dies(" + wrong + ")", x.dies(wrong), YearsLent.BAD);
        }
        x = Check.laid("p50;p5;r50;n1;");
        x.lend(0, 1, 10, 15);
        due("dead in the WEEK in which it is due", x.dies(1), 15);
        due("LOST by 0 then", x.run(15, 0, 1), 15);
        due("the lender dies as always", x.dies(0), 40);
        x = Check.laid("p15;p50;r50;n1;");
        x.lend(0, 1, 10, 5);
        due("the lender dies in the WEEK in which it is due", x.dies(0), 5);
        x = Check.laid("p16;p50;r50;n1;");
        x.lend(0, 1, 10, 5);
        due("the lender lives on", x.dies(0), 21);
    }

    private static void running() {
        YearsLent x = Check.laid("p50;p5;p9;r50;n1;");
        x.lend(0, 1, 10, 5);
        due("run(0, 0, 0)", x.run(0, 0, 0), 40);
        due("run(0, 0, 2)", x.run(0, 0, 2), 3);
        due("run(4, 0, 0)", x.run(4, 0, 0), 36);
        due("run(5, 0, 0)", x.run(5, 0, 0), 44);
        due("run(5, 0, 1)", x.run(5, 0, 1), 6);
        due("run(5, 1, 1)", x.run(5, 1, 1), 0);
        due("run(5, 1, 2)", x.run(5, 1, 2), 3);
        due("run(6, 1, 2)", x.run(6, 1, 2), 2);
        due("run(2000, 0, 2)", x.run(2000, 0, 2), 0);
        due("run(2000, 0, 0)", x.run(2000, 0, 0), 0);
        int[][] bad = {{-1, 0, 0}, {2001, 0, 0}, {1, -1, 0}, {1, 3, 0}, {1, 3, 2}, {1, 0, -1}, {1, 0, 3}};
        for (int[] c : bad) {
            due("run" + java.util.Arrays.toString(c), x.run(c[0], c[1], c[2]), YearsLent.BAD);
        }
        due("nothing is done by asking", x.person(0, 0), 40);
        Check.weeks(x, 5);
        due("LOST so far counts", x.run(3, 0, 1), 6);
    }

    private static void due(String call, long got, long want) {
        check.due(call, got, want);
    }
}

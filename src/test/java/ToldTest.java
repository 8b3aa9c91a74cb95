/** Promises 14 to 18: what is told, spans, what is to be asked, a notary bribed. */
public final class ToldTest {
    private static final Check check = new Check();

    public static void main(String[] args) {
        telling();
        spans();
        asking();
        bribes();
        check.finish("ToldTest");
    }

    private static void telling() {
        YearsLent x = Check.laid("p1;p80;");
        int[][] bad = {{-1, 1, 1}, {2, 1, 1}, {0, 0, 1}, {0, 201, 1}, {0, 1, 0}, {0, 1, 201},
            {Integer.MIN_VALUE, Integer.MAX_VALUE, Integer.MIN_VALUE}};
        for (int[] c : bad) {
            due("tell" + java.util.Arrays.toString(c), x.tell(c[0], c[1], c[2], true), YearsLent.BAD);
        }
        due("nothing is TOLD by that", x.count(2), 0);
        x.week();
        due("of one who is DEAD", x.tell(0, 1, 1, true), 1);
        for (int k = 2; k <= 12; k++) {
            due("tell", x.tell(1, 200, 200, k % 2 == 0), k);
        }
        due("a thirteenth", x.tell(1, 1, 1, true), YearsLent.FULL);
        due("BAD ahead of FULL", x.tell(2, 1, 1, true), YearsLent.BAD);
        due("count(2)", x.count(2), 12);
        due("forget()", x.forget(), 12);
        due("forget()", x.forget(), 0);
        due("count(2)", x.count(2), 0);
        due("tell", x.tell(1, 1, 1, false), 1);
        due("span(1, 1)", x.span(1, 1), 1);
    }

    private static void spans() {
        YearsLent x = Check.laid("p50;p80;p7;r33;n2;");
        due("without anything TOLD", x.span(0, 0) * 1000 + x.span(0, 1), 1999);
        x.tell(0, 10, 20, true);
        due("more than 20 and 3", x.span(0, 0), 24);
        due("no bound above", x.span(0, 1), 999);
        x.tell(0, 1, 10, true);
        due("less is told: nothing new", x.span(0, 0), 24);
        x.tell(0, 100, 60, false);
        due("not more than 60 and 33", x.span(0, 1), 93);
        x.tell(0, 200, 200, false);
        due("less is told: nothing new", x.span(0, 1), 93);
        x.tell(1, 3, 30, false);
        due("of another", x.span(1, 0) * 1000 + x.span(1, 1), 1030);
        due("of 0 still", x.span(0, 0) * 1000 + x.span(0, 1), 24093);
        x.tell(0, 1, 24, false);
        due("one WEEK", x.span(0, 0) * 1000 + x.span(0, 1), 24024);
        x.tell(0, 1, 23, false);
        due("none", x.span(0, 0), YearsLent.NONE);
        due("none", x.span(0, 1), YearsLent.NONE);
        due("of a third", x.span(2, 0) * 1000 + x.span(2, 1), 1999);
        for (int wrong : new int[] {-1, 3, Integer.MIN_VALUE, Integer.MAX_VALUE}) {
            due("span(" + wrong + ", 0)", x.span(wrong, 0), YearsLent.BAD);
            due("BAD ahead of NONE", x.span(0, wrong), YearsLent.BAD);
        }
        due("span(0, 2)", x.span(0, 2), YearsLent.BAD);
        x.week();
        x.lend(1, 2, 3, 3);
        due("WEEKS that go by change nothing", x.span(1, 1), 30);
    }

    private static void asking() {
        YearsLent x = Check.laid("p50;p80;r10;");
        due("of 1 to 999: as late as can be", x.ask(0, 1), 200);
        due("of 1 to 999: as late as can be", x.ask(0, 200), 200);
        x.tell(0, 1, 10, true);
        x.tell(0, 1, 20, false);
        due("11 to 20: 5 and 5", x.ask(0, 1), 15);
        due("11 to 20, INTEREST 4", x.ask(0, 40), 11);
        due("11 to 20, INTEREST 20", x.ask(0, 200), YearsLent.NONE);
        due("11 to 20, INTEREST 14", x.ask(0, 149), 1);
        due("11 to 20, INTEREST 18: 1 yes, 9 no", x.ask(0, 180), 1);
        due("11 to 20, INTEREST 19: nobody says yes", x.ask(0, 190), YearsLent.NONE);
        x.tell(0, 1, 19, false);
        due("11 to 19: the lower of 15 and 14", x.ask(0, 1), 14);
        x.tell(0, 1, 11, false);
        due("one WEEK: nothing is learnt", x.ask(0, 1), YearsLent.NONE);
        x.tell(0, 1, 10, false);
        due("no SPAN", x.ask(0, 1), YearsLent.NONE);
        for (int wrong : new int[] {-1, 2, Integer.MIN_VALUE, Integer.MAX_VALUE}) {
            due("ask(" + wrong + ", 1)", x.ask(wrong, 1), YearsLent.BAD);
        }
        due("ask(0, 0)", x.ask(0, 0), YearsLent.BAD);
        due("ask(0, 201)", x.ask(0, 201), YearsLent.BAD);
        due("BAD ahead of NONE", x.ask(0, -1), YearsLent.BAD);
        x.tell(1, 1, 200, true);
        due("201 to 999, INTEREST 1: 1 no", x.ask(1, 10), 200);
        due("201 to 999, INTEREST 0: all yes", x.ask(1, 9), YearsLent.NONE);
    }

    private static void bribes() {
        YearsLent x = Check.laid("p50;p80;r50;");
        due("nothing TOLD", x.bribed(), 0);
        x.tell(0, 20, 40, true);
        due("50 is not more than 40 and 10", x.bribed(), 1);
        x.tell(0, 20, 40, false);
        x.tell(0, 20, 39, true);
        x.tell(0, 20, 39, false);
        due("the second and third are so", x.bribed(), 0b1001);
        for (int k = 4; k < 11; k++) {
            x.tell(1, 2, 79, false);
        }
        x.tell(1, 2, 79, true);
        due("80 is not more than 79 and 1", x.bribed(), 0b100000001001);
        x.lend(1, 0, 30, 10);
        x.week();
        due("WEEKS as LAID count", x.bribed(), 0b100000001001);
        x.forget();
        due("nothing TOLD", x.bribed(), 0);
    }

    private static void due(String call, long got, long want) {
        check.due(call, got, want);
    }
}

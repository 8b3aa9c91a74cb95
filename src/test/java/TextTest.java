/** Promises 2 to 5: the text, its fault, and what is laid by it. */
public final class TextTest {
    private static final Check check = new Check();

    public static void main(String[] args) {
        writing();
        faults();
        laying();
        layingAnew();
        layingInVain();
        check.finish("TextTest");
    }

    private static void writing() {
        YearsLent x = new YearsLent();
        for (int n : new int[] {0, -1, 9, Integer.MIN_VALUE, Integer.MAX_VALUE}) {
            due("write(" + n + ")", x.write(n, 0), YearsLent.BAD);
        }
        due("nothing is written by that", x.count(5), 0);
        // Of 7A 70 37 3B the lowest three are p7;
        due("write(3, 0x7A70373B)", x.write(3, 0x7A70373BL), 3);
        due("the lowest three bytes alone count", x.fault(), YearsLent.NONE);
        due("lay()", x.lay(), 1);
        due("person(0, 0)", x.person(0, 0), 7);
        due("wipe()", x.wipe(), 3);
        due("wipe()", x.wipe(), 0);
        due("bytes above 127", x.write(8, -1L), 8);
        due("fault()", x.fault(), 0);
        x.wipe();
        for (int k = 1; k <= 37; k++) {
            due("write(8, ..)", x.write(8, 0), 8 * k);
        }
        due("write(5, 0) behind 296", x.write(5, 0), YearsLent.FULL);
        due("write(0, 0) behind 296", x.write(0, 0), YearsLent.BAD);
        due("write(4, 0) behind 296", x.write(4, 0), 300);
        due("write(1, 0) behind 300", x.write(1, 0), YearsLent.FULL);
        due("write(9, 0) behind 300", x.write(9, 0), YearsLent.BAD);
        due("count(5)", x.count(5), 300);
        due("wipe()", x.wipe(), 300);
        due("count(5)", x.count(5), 0);
    }

    private static void faults() {
        String[] good = {"", "p1;", "p999;", "p001;", "p1;p2;p3;p4;p5;p6;", "r0;", "r99;", "r099;", "k0;k3;", "n0;n2;",
            "r1;r2;k1;k2;n1;n0;p9;", "n002;"};
        for (String text : good) {
            due("fault() of " + text, faultOf(text), YearsLent.NONE);
        }
        String[] bad = {"p0;", "p000;", "p1000;", "p0001;", "p;", "p", "p5", "p5,", "p5,6;", "p-1;", "p 5;", "p5 ;", "P5;",
            "q5;", ";", ",", "5;", "pp5;", "r100;", "r999;", "k4;", "n3;", "r;", "k;", "n;", "r5,5;", "p5:", " p5;",
            "p1p2;", "\u00f0\u0035;", "\0"};
        for (String text : bad) {
            due("fault() of " + text, faultOf(text), 0);
            due("fault() behind p5; of " + text, faultOf("p5;" + text), 3);
            due("fault() behind r09;k1; of " + text, faultOf("r09;k1;" + text + "x"), 7);
        }
        due("a seventh PERSON", faultOf("p1;p2;p3;r1;p4;p5;p6;p7;"), 21);
        due("the first of several faults", faultOf("p1;p0;p0;"), 3);
        due("r behind six PERSONS", faultOf("p1;p2;p3;p4;p5;p6;r5;"), YearsLent.NONE);
        StringBuilder longest = new StringBuilder();
        for (int k = 0; k < 100; k++) {
            longest.append("r7;");
        }
        due("300 bytes", faultOf(longest.toString()), YearsLent.NONE);
        longest.setCharAt(299, '5');
        due("300 bytes, the last one wrong", faultOf(longest.toString()), 297);
    }

    private static int faultOf(String text) {
        YearsLent x = new YearsLent();
        Check.put(x, text);
        return x.fault();
    }

    private static void laying() {
        due("lay() without a PERSON", layOf("r5;k1;n1;"), YearsLent.NO);
        due("lay() with a FAULT", layOf("p5;p0;"), YearsLent.NO);
        due("lay() of an empty TEXT", layOf(""), YearsLent.NO);
        due("lay() of one", layOf("p5;"), 1);
        due("lay() of six", layOf("p5;p5;p5;p5;p5;p5;"), 6);
        YearsLent x = Check.laid("p300;p007;r50;r20;k1;k0;n2;n0;p12;");
        due("person(0, 0)", x.person(0, 0), 300);
        due("person(1, 0)", x.person(1, 0), 7);
        due("person(2, 0)", x.person(2, 0), 12);
        due("the last r counts", x.notary(0, 1, 10, 4), 1);
        due("the last r counts", x.notary(0, 1, 10, 5), 0);
        x = Check.laid("p300;p7;");
        due("r10 without", x.notary(0, 1, 10, 5), 1);
        due("r10 without", x.notary(0, 1, 10, 6), 0);
    }

    private static int layOf(String text) {
        YearsLent x = new YearsLent();
        Check.put(x, text);
        return x.lay();
    }

    private static YearsLent used() {
        YearsLent x = Check.laid("p100;p5;r0;k1;n1;");
        x.lend(0, 1, 50, 1);
        x.lend(0, 1, 20, 2);
        x.lend(1, 0, 60, 2);
        x.keep();
        x.week();
        x.week();
        x.tell(0, 5, 5, true);
        return x;
    }

    private static void layingAnew() {
        YearsLent x = used();
        due("LOST by 0 ahead of lay()", x.person(0, 1), 70);
        x.lend(0, 1, 3, 9);
        due("lay()", x.lay(), 2);
        due("PERSONS", x.count(0), 2);
        due("LOANS", x.count(1), 0);
        due("TOLD", x.count(2), 0);
        due("that can be UNDONE", x.count(3), 0);
        due("KEPT", x.count(4), 0);
        due("THE TEXT stays", x.count(5), 17);
        due("WEEKS gone by", x.count(6), 0);
        due("undo()", x.undo(), YearsLent.NO);
        due("back()", x.back(), YearsLent.NO);
        due("WEEKS", x.person(0, 0), 100);
        due("LOST", x.person(0, 1), 0);
        x.wipe();
        Check.put(x, "p9;p9;p9;");
        due("lay() of three", x.lay(), 3);
        due("the NOTARY is STRICT again", x.notary(0, 1, 5, 9), 0);
        due("INTEREST is 10 again", x.tell(0, 100, 1, true), 1);
        due("span(0, 0)", x.span(0, 0), 12);
        x.forget();
        x.wipe();
        Check.put(x, "p9;");
        due("lay() of one", x.lay(), 1);
        due("person(1, 0)", x.person(1, 0), YearsLent.BAD);
    }

    private static void layingInVain() {
        YearsLent x = used();
        Check.put(x, "p4;p0;");
        int weeks = x.person(1, 0);
        due("lay()", x.lay(), YearsLent.NO);
        due("WEEKS stay", x.person(1, 0), weeks);
        due("LOST stays", x.person(0, 1), 70);
        due("TOLD stays", x.count(2), 1);
        due("UNDONE stays", x.count(3), 5);
        due("KEPT stays", x.count(4), 1);
        due("PERSONS stay", x.count(0), 2);
        due("WEEKS gone by stay", x.count(6), 2);
    }

    private static void due(String call, long got, long want) {
        check.due(call, got, want);
    }
}

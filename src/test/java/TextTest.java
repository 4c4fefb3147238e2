/** Promises 6 to 8, and the texts of 15: the tape, formulas, faults. */
public final class TextTest {
    public static void main(String[] args) {
        feed();
        formulasThatAreRead();
        faults();
        faultsOfClaims();
        whatStays();
        Due.end("TextTest");
    }

    private static void feed() {
        SlackProofs x = new SlackProofs();
        Due.due("feed 0", x.feed(0), 1);
        Due.due("feed 255", x.feed(255), 2);
        Due.due("feed -1", x.feed(-1), SlackProofs.BAD);
        Due.due("feed 256", x.feed(256), SlackProofs.BAD);
        for (int i = 2; i < 200; i++) {
            Due.due("feed", x.feed('p'), i + 1);
        }
        Due.due("feed FULL", x.feed('p'), SlackProofs.FULL);
        Due.due("feed BAD ahead of FULL", x.feed(256), SlackProofs.BAD);
        Due.due("tape", x.count(7), 200);
        Due.due("byte 0 is no token", x.formula(), -1000100);
        Due.due("tape is empty", x.count(7), 0);
    }

    private static void formula(String text, int want, int fault) {
        SlackProofs x = new SlackProofs();
        Due.feed(x, text);
        Due.due("formula " + text, x.formula(), want);
        Due.due("fault of " + text, x.fault(), fault);
        Due.due("tape after " + text, x.count(7), 0);
        Due.due("clauses of " + text, x.count(1), want < 0 ? 0 : want);
    }

    private static void fault(String text, int place, int fault) {
        formula(text, -1000100 - place, fault);
    }

    private static void formulasThatAreRead() {
        formula("g0;", 1, 0);
        formula("g99;", 1, 0);
        formula("g07;", 1, 0);
        formula("p7,99;n00,01;g1;", 1, 0);
        formula("g0;g0;g0;g0;g0;g0;g0;g0;", 8, 0);
        formula("g0;g0;g0;g0;g0;g0;g0;g0;m0,9;m7,1;", 8, 0);
        formula("p0,1;n1,1;p2,1;n3,1;p4,1;n5,1;p6,1;n7,1;g1;", 1, 0);
        SlackProofs x = Due.read("p7,99;n00,01;g42;p0,1;g1;m3,9;m05,07;");
        Due.dueTold(x, 0, "1~x0 99x7 >= 42");
        Due.dueTold(x, 1, "1x0 >= 1");
        Due.due("price 3", x.price(3), 9);
        Due.due("price 5", x.price(5), 7);
        Due.due("price 0", x.price(0), 0);
        Due.due("price -1", x.price(-1), SlackProofs.BAD);
        Due.due("price 8", x.price(8), SlackProofs.BAD);
        Due.due("prices", x.count(5), 16);
        Due.due("kind", x.kind(1), 1);
    }

    private static void faults() {
        fault("", 0, 1);
        fault("x", 0, 1);
        fault("G0;", 0, 1);
        fault(" g0;", 0, 1);
        fault("g 0;", 1, 1);
        fault("g0", 2, 1);
        fault("g0,", 2, 1);
        fault("g;", 1, 1);
        fault("g100;", 1, 1);
        fault("g0000;", 1, 1);
        fault("p0,1;", 5, 1);
        fault("p,1;g0;", 1, 1);
        fault("p0;g0;", 2, 1);
        fault("p0,;g0;", 3, 1);
        fault("p0,1g0;", 4, 1);
        fault("p8,1;g0;", 1, 2);
        fault("p99,", 1, 2);
        fault("p008,", 1, 1);
        fault("p0,0;g0;", 3, 2);
        fault("p0,00;g0;", 3, 2);
        fault("p0,1;p0,1;g0;", 6, 2);
        fault("p0,1;n00,1;g0;", 6, 2);
        fault("m0,1;g0;", 0, 1);
        fault("p0,1;m0,1;", 5, 1);
        fault("g0;m0,10;", 6, 2);
        fault("g0;m0,0;", 6, 2);
        fault("g0;m0,100;", 6, 1);
        fault("g0;m8,1;", 4, 2);
        fault("g0;m0,1;m0,1;", 9, 2);
        fault("g0;m0,1;g0;", 8, 1);
        fault("g0;m0,1;p0,1;g0;", 8, 1);
        fault("g0;m0,1", 7, 1);
        fault("g0;,", 3, 1);
        fault("g0;5", 3, 1);
        fault("g0;\u00e9", 3, 1);
        fault("g0;g0;g0;g0;g0;g0;g0;g0;g0;", 24, 3);
        fault("g0;g0;g0;g0;g0;g0;g0;g0;p", 24, 3);
        fault("g0;g0;g0;g0;g0;g0;g0;g0;n9", 24, 3);
        fault("g0;g0;g0;g0;g0;g0;g0;g0;x", 24, 1);
        fault("g0;g0;g0;g0;g0;g0;g0;g0;m0,1;g0;", 29, 1);
        fault("p0,1;n1,1;p2,1;n3,1;p4,1;n5,1;p6,1;n7,1;p8,1;g1;", 41, 2);
        fault("g0;m0,1;m1,1;m2,1;m3,1;m4,1;m5,1;m6,1;m7,1;m7,1;", 44, 2);
    }

    private static void faultsOfClaims() {
        SlackProofs x = Due.read("g0;");
        Due.due("claim of two", Due.claim(x, "g0;g0;"), -1000103);
        Due.due("fault of two", x.fault(), 1);
        Due.due("claim with price", Due.claim(x, "g0;m0,1;"), -1000103);
        Due.due("claim of none", Due.claim(x, ""), -1000100);
        Due.due("claim p9", Due.claim(x, "p9,1;g0;"), -1000101);
        Due.due("fault of p9", x.fault(), 2);
        Due.due("tape after it", x.count(7), 0);
        Due.due("claim that is one", Due.claim(x, "g0;"), 1);
        Due.due("the latest fault stays", x.fault(), 2);
    }

    private static void whatStays() {
        SlackProofs x = Due.read("p0,1;p1,1;g1;m0,2;");
        x.plus(0, 0);
        x.solution(2);
        Due.due("acts", x.count(6), 2);
        Due.feed(x, "p0,1;g1;m1,1");
        Due.due("a fault", x.formula(), -1000112);
        Due.due("clauses stay", x.count(1), 3);
        Due.due("prices stay", x.price(0), 2);
        Due.due("price not read", x.price(1), 0);
        Due.due("best stays", x.count(4), 0);
        Due.due("acts stay", x.count(6), 2);
        Due.feed(x, "n7,3;g2;m7,4;");
        Due.due("formula", x.formula(), 1);
        Due.dueTold(x, 0, "3~x7 >= 2");
        Due.due("clauses", x.count(1), 1);
        Due.due("numbers", x.count(2), 1);
        Due.due("live", x.count(3), 1);
        Due.due("no best", x.count(4), SlackProofs.NONE);
        Due.due("prices", x.count(5), 4);
        Due.due("no acts", x.count(6), 0);
        Due.due("undo", x.undo(), SlackProofs.STATE);
        Due.due("clause 1 is gone", x.degree(1), SlackProofs.BAD);
    }
}

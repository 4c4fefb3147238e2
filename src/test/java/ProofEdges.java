/** Edges of promises 15 to 19: claims, witnesses, solutions, removing, undoing. */
final class ProofEdges {
    private ProofEdges() { }

    static void run() {
        claimTapeStays();
        claimOrder();
        claimFollows();
        claimByNoWitness();
        claimContrary();
        claimSums();
        witnessTapeStays();
        witnessItems();
        witnessOrder();
        witnessPutsEach();
        witnessPutSinks();
        witnessPutMerges();
        witnessNeedsAll();
        witnessPrices();
        solutionValues();
        solutionBounds();
        solutionWithoutPrices();
        solutionOrder();
        removeKinds();
        removeLast();
        removeOver();
        removeRefused();
        undoEach();
        undoTwelve();
        undoNothing();
        theLastOf512Calls();
    }

    private static void claimTapeStays() {
        SlackProofs x = new SlackProofs();
        Due.feed(x, "p3,7;g5;");
        Edge.edge(15, "STATE", x.claim(), Edge.STATE);
        Edge.edge(15, "the tape stays", x.count(7), 8);
        Edge.edge(15, "no finding", x.status(), 0);
        Edge.edge(15, "it can be read yet", x.formula(), 1);
        Edge.edgeTold(15, x, 0, "7x3 >= 5");
        Edge.edge(15, "no formula, so no fault", x.fault(), 0);
        SlackProofs y = new SlackProofs();
        y.feed('z');
        Edge.edge(15, "STATE ahead of a fault", y.claim(), Edge.STATE);
        Edge.edge(15, "no fault", y.fault(), 0);
    }

    private static void claimOrder() {
        SlackProofs x = Edge.full();
        x.as(0, 5);
        Edge.edge(15, "a fault ahead of FULL", Due.claim(x, "g"), Edge.FAULT - 1);
        Edge.edge(15, "a fault leaves the status", x.status(), 3);
        Edge.edge(15, "FULL", Due.claim(x, "g0;"), Edge.FULL);
        Edge.edge(15, "FULL leaves the status", x.status(), 3);
        Edge.edge(15, "the tape is empty then", x.count(7), 0);
        Edge.edge(15, "FULL ahead of NONE", Due.claim(x, "p7,1;g1;"), Edge.FULL);
        SlackProofs y = Edge.fullAndBeyond();
        Edge.edge(15, "FULL ahead of OVER", Due.claim(y, "g0;"), Edge.FULL);
        SlackProofs z = Edge.beyond();
        Edge.edge(15, "a fault ahead of OVER", Due.claim(z, "g0"), Edge.FAULT - 2);
        Edge.edge(15, "OVER ahead of NONE", Due.claim(z, "p7,1;g1;"), Edge.OVER);
        Edge.edge(15, "OVER, even of degree 0", Due.claim(z, "g0;"), Edge.OVER);
        Edge.edge(15, "status OVER", z.status(), 6);
        Edge.edge(15, "the tape is empty then", z.count(7), 0);
        Edge.edge(15, "nothing came", z.count(2), 3);
        SlackProofs u = Due.read("p0,1;g1;");
        for (int i = 1; i < 29; i++) {
            u.axiom(0, 1);
        }
        Edge.edge(15, "the thirtieth", Due.claim(u, "p0,1;g1;"), 29);
        Edge.edge(15, "no more", Due.claim(u, "p0,1;g1;"), Edge.FULL);
    }

    private static void claimFollows() {
        SlackProofs x = Due.read("p0,1;g1;");
        x.as(0, 5);
        Edge.edge(15, "NONE", Due.claim(x, "p1,1;g1;"), Edge.NONE);
        Edge.edge(15, "NONE is no finding", x.status(), 0);
        Edge.edge(15, "NONE is no act", x.count(6), 0);
        Edge.edge(15, "the tape is empty then", x.count(7), 0);
        Edge.edge(15, "a degree of 0 follows", Due.claim(x, "p1,1;g0;"), 1);
        Edge.edge(15, "1 does not", Due.claim(x, "p1,1;g1;"), Edge.NONE);
        Edge.edge(15, "from itself", Due.claim(x, "p0,1;g1;"), 2);
        Edge.edge(15, "as much as there is", Due.claim(x, "p0,99;g99;"), 3);
        Edge.edge(15, "more than there can be", Due.claim(x, "p0,98;g99;"), Edge.NONE);
        Edge.edge(15, "of nothing", Due.claim(x, "g1;"), Edge.NONE);
        Edge.edge(15, "claimed", x.kind(3), 5);
        SlackProofs y = Due.read("p0,1;p1,1;p2,1;g2;");
        Edge.edge(15, "true, but nothing is forced", Due.claim(y, "p0,1;p1,1;p2,1;g2;"), Edge.NONE);
        Edge.edge(15, "two of them are forced", Due.claim(y, "p0,1;p1,1;g1;"), 1);
        SlackProofs z = Due.read("g1;");
        Edge.edge(15, "all follows from what cannot be", Due.claim(z, "g99;"), 1);
    }

    /** ~x0 >= 1 would come by a witness that puts 0 for x0; a claim looks at no row. */
    private static void claimByNoWitness() {
        SlackProofs x = Due.read("g0;");
        Edge.edge(15, "rows are missing", Due.claim(x, "n0,1;g1;"), Edge.NONE);
        for (int row = 0; row < 8; row++) {
            x.row(row, 0, 8);
        }
        Edge.edge(15, "rows that put 0", Due.claim(x, "n0,1;g1;"), Edge.NONE);
        Edge.edge(16, "by one of them it comes", Due.witness(x, "n0,1;g1;", 7), 1);
    }

    /** The contrary of 3x0 2x1 >= d: 3~x0 2~x1 >= 6 less d; it forces x0 as 3 is above the slack. */
    private static void claimContrary() {
        String from = "p0,1;p1,1;g1;n0,1;p1,1;g1;";
        Edge.edge(15, "x1 is forced, degree 2", Due.claim(Due.read(from), "p0,3;p1,2;g2;"), 2);
        Edge.edge(15, "degree 3: the contrary says 3 of 5", Due.claim(Due.read(from), "p0,3;p1,2;g3;"), Edge.NONE);
        Edge.edge(15, "degree 1", Due.claim(Due.read(from), "p0,3;p1,2;g1;"), 2);
        Edge.edge(15, "degree 5", Due.claim(Due.read(from), "p0,3;p1,2;g5;"), Edge.NONE);
        Edge.edge(15, "degree 6, the contrary has degree 0", Due.claim(Due.read(from), "p0,3;p1,2;g6;"), Edge.NONE);
        Edge.edge(15, "degree 99", Due.claim(Due.read(from), "p0,3;p1,2;g99;"), Edge.NONE);
        String given = "p0,3;p1,2;g5;";
        Edge.edge(15, "all of it", Due.claim(Due.read(given), "p0,3;p1,2;g5;"), 1);
        Edge.edge(15, "one more", Due.claim(Due.read(given), "p0,3;p1,2;g6;"), Edge.NONE);
        Edge.edge(15, "of a contrary", Due.claim(Due.read(given), "n0,1;g1;"), Edge.NONE);
        String weighed = "p0,3;p1,2;n2,2;g5;";
        Edge.edge(15, "3 is above the slack of 2", Due.claim(Due.read(weighed), "p0,1;g1;"), 1);
        Edge.edge(15, "2 is not", Due.claim(Due.read(weighed), "p1,1;g1;"), Edge.NONE);
        Edge.edge(15, "one of two is", Due.claim(Due.read(weighed), "p1,1;n2,1;g1;"), 1);
    }

    /** A SUM may be the greatest long; one more is beyond. */
    private static void claimSums() {
        SlackProofs x = Due.read("p0,24;n1,25;g24;p2,1;g0;");
        int most = Edge.timesToTheGreatest(x, 0);
        Edge.edge(15, "the greatest sum", x.sum(most), Long.MAX_VALUE);
        Edge.edge(15, "goes", Due.claim(x, "p0,1;n1,1;g1;"), most + 1);
        int more = x.plus(most, 1);
        Edge.edge(15, "one more", x.sum(more), Edge.OVER);
        Edge.edge(15, "OVER", Due.claim(x, "g0;"), Edge.OVER);
        x.remove(more);
        Edge.edge(15, "what is removed is not looked at", Due.claim(x, "g0;"), more + 1);
        Edge.edge(15, "status 0", x.status(), 0);
    }

    private static void witnessTapeStays() {
        SlackProofs x = new SlackProofs();
        x.row(1, 2, 7);
        Edge.putNothing(x, 2);
        x.set(2, 5, 18);
        Due.feed(x, "p3,7;g5;");
        for (int row : new int[] {-1, 0, 1, 2, 8, Edge.MIN, Edge.MAX}) {
            Edge.edge(16, "STATE ahead of all", x.witness(row), Edge.STATE);
        }
        Edge.edge(16, "the tape stays", x.count(7), 8);
        Edge.edge(16, "it can be read", x.formula(), 1);
        Due.feed(x, "p3,1;g1;");
        for (int row : new int[] {-1, 8, 9, Edge.MIN, Edge.MAX}) {
            Edge.edge(16, "BAD: " + row, x.witness(row), Edge.BAD);
        }
        Edge.edge(16, "BAD is no finding", x.status(), 0);
        Edge.edge(16, "NULL", x.witness(0), Edge.NULL);
        Edge.edge(16, "status NULL", x.status(), 1);
        Edge.edge(16, "PLACE: seven items", x.witness(1), Edge.PLACE);
        Edge.edge(16, "status PLACE", x.status(), 2);
        Edge.edge(16, "PLACE: an item that is none such", x.witness(2), Edge.PLACE);
        Edge.edge(16, "the tape stays", x.count(7), 8);
        Edge.edge(16, "it is a claim yet", x.claim(), 1);
        Edge.edge(16, "that it was", x.coefficient(1, 3), 1);
    }

    private static void witnessItems() {
        SlackProofs x = Due.read("g0;");
        for (int n = 0; n < 8; n++) {
            x.row(0, 0, n);
            Edge.edge(16, "PLACE: " + n + " items", x.witness(0), Edge.PLACE);
        }
        for (int n : new int[] {8, 9, 40}) {
            x.row(0, 0, n);
            Edge.edge(16, n + " items", Due.witness(x, "g1;", 0), Edge.NONE);
        }
        x.set(0, 8, 99);
        Edge.edge(16, "those behind are not looked at", Due.witness(x, "g1;", 0), Edge.NONE);
        for (int v = 0; v < 8; v++) {
            witnessItem(v);
        }
    }

    /** An empty tape has a fault, so what is told of it says that the items are taken. */
    private static void witnessItem(int v) {
        SlackProofs x = Due.read("g0;");
        Edge.putNothing(x, 1);
        for (int item : new int[] {-1, -2, 18, 19, 99, -128, 127, Edge.MIN, Edge.MAX, 256, -255}) {
            x.set(1, v, item);
            Edge.edge(16, "PLACE: item " + v + " is " + item, x.witness(1), Edge.PLACE);
        }
        for (int item = 0; item < 18; item++) {
            x.set(1, v, item);
            Edge.edge(16, "item " + v + " is " + item, x.witness(1), Edge.FAULT);
        }
    }

    private static void witnessOrder() {
        SlackProofs x = Edge.full();
        Edge.putNothing(x, 0);
        x.row(1, 2, 7);
        Due.feed(x, "g");
        Edge.edge(16, "BAD ahead of a fault", x.witness(8), Edge.BAD);
        Edge.edge(16, "NULL ahead of a fault", x.witness(2), Edge.NULL);
        Edge.edge(16, "PLACE ahead of a fault", x.witness(1), Edge.PLACE);
        Edge.edge(16, "a fault ahead of FULL", x.witness(0), Edge.FAULT - 1);
        Edge.edge(16, "the status stays", x.status(), 2);
        Edge.edge(16, "the tape is empty then", x.count(7), 0);
        Edge.edge(16, "FULL", Due.witness(x, "g0;", 0), Edge.FULL);
        Edge.edge(16, "the status stays", x.status(), 2);
        Edge.edge(16, "the tape is empty then", x.count(7), 0);
        SlackProofs y = Edge.fullAndBeyond();
        Edge.putNothing(y, 0);
        Edge.edge(16, "FULL ahead of OVER", Due.witness(y, "g0;", 0), Edge.FULL);
        Edge.edge(16, "PLACE ahead of FULL", y.row(0, 0, 7) + y.witness(0), 7 + Edge.PLACE);
        SlackProofs z = Edge.beyond();
        Edge.putNothing(z, 0);
        Edge.edge(16, "a fault ahead of OVER", Due.witness(z, "g", 0), Edge.FAULT - 1);
        Edge.edge(16, "OVER ahead of NONE", Due.witness(z, "g1;", 0), Edge.OVER);
        Edge.edge(16, "status OVER", z.status(), 6);
        Edge.edge(16, "the tape is empty then", z.count(7), 0);
        z.remove(2);
        Edge.edge(16, "NONE", Due.witness(z, "g1;", 0), Edge.NONE);
        Edge.edge(16, "NONE is no finding", z.status(), 0);
        Edge.edge(16, "NONE is no act", z.count(6), 3);
        SlackProofs u = Due.read("g0;");
        for (int i = 1; i < 29; i++) {
            u.axiom(0, 1);
        }
        u.row(0, 0, 8);
        Edge.edge(16, "the thirtieth", Due.witness(u, "n0,1;g1;", 0), 29);
        Edge.edge(16, "claimed", u.kind(29), 5);
        Edge.edge(16, "no more", Due.witness(u, "n0,1;g1;", 0), Edge.FULL);
    }

    /** x v + lit >= 1 comes if what is put for x v is the contrary of lit, as then they cancel. */
    private static void witnessPutsEach() {
        for (int v = 0; v < 8; v++) {
            for (int other = 0; other < 8; other++) {
                if (v == other) {
                    continue;
                }
                SlackProofs x = Due.read("g0;");
                Edge.putNothing(x, 0);
                String with = "p" + v + ",1;p" + other + ",1;g1;";
                String against = "p" + v + ",1;n" + other + ",1;g1;";
                x.set(0, v, 2 + other);
                Edge.edge(16, "2 and " + other, Due.witness(x, with, 0), Edge.NONE);
                Edge.edge(16, "2 and " + other, Due.witness(x, against, 0), 1);
                x.undo();
                x.set(0, v, 10 + other);
                Edge.edge(16, "10 and " + other, Due.witness(x, against, 0), Edge.NONE);
                Edge.edge(16, "10 and " + other, Due.witness(x, with, 0), 1);
                witnessPutsContrary(v, other);
            }
            SlackProofs y = Due.read("g0;");
            Edge.putNothing(y, 0);
            Edge.edge(16, "itself", Due.witness(y, "p" + v + ",1;g1;", 0), Edge.NONE);
            y.set(0, v, 0);
            Edge.edge(16, "0", Due.witness(y, "p" + v + ",1;g1;", 0), Edge.NONE);
            Edge.edge(16, "0, of the contrary", Due.witness(y, "n" + v + ",1;g1;", 0), 1);
            y.undo();
            y.set(0, v, 1);
            Edge.edge(16, "1, of the contrary", Due.witness(y, "n" + v + ",1;g1;", 0), Edge.NONE);
            Edge.edge(16, "1", Due.witness(y, "p" + v + ",1;g1;", 0), 1);
            y.undo();
            y.set(0, v, 10 + v);
            Edge.edge(16, "its own contrary", Due.witness(y, "p" + v + ",1;g1;", 0), 1);
        }
    }

    /** The same of ~x v, that becomes the contrary of what is put. */
    private static void witnessPutsContrary(int v, int other) {
        SlackProofs x = Due.read("g0;");
        Edge.putNothing(x, 0);
        String with = "n" + v + ",1;p" + other + ",1;g1;";
        String against = "n" + v + ",1;n" + other + ",1;g1;";
        x.set(0, v, 2 + other);
        Edge.edge(16, "contrary of 2 and " + other, Due.witness(x, against, 0), Edge.NONE);
        Edge.edge(16, "contrary of 2 and " + other, Due.witness(x, with, 0), 1);
        x.undo();
        x.set(0, v, 10 + other);
        Edge.edge(16, "contrary of 10 and " + other, Due.witness(x, with, 0), Edge.NONE);
        Edge.edge(16, "contrary of 10 and " + other, Due.witness(x, against, 0), 1);
    }

    /** What is 1 lowers the degree: to 0, below 0, not enough; what is 0 is left out. */
    private static void witnessPutSinks() {
        String[] claims = {"p0,5;p1,9;g5;", "p0,5;p1,9;g4;", "p0,5;p1,9;g1;", "p0,4;p1,9;g5;"};
        int[] want = {1, 1, 1, Edge.NONE};
        for (int i = 0; i < claims.length; i++) {
            SlackProofs x = Due.read("g0;");
            Edge.putNothing(x, 0);
            x.set(0, 0, 1);
            x.set(0, 1, 0);
            Edge.edge(16, "x0 is 1, x1 is 0: " + claims[i], Due.witness(x, claims[i], 0), want[i]);
        }
        SlackProofs y = Due.read("p0,5;p1,9;g9;");
        Edge.putNothing(y, 0);
        y.set(0, 0, 1);
        Edge.edge(16, "9x1 >= 4 is left, and forced", Due.witness(y, "p0,1;g1;", 0), 1);
        SlackProofs z = Due.read("p0,5;p1,9;g5;");
        Edge.putNothing(z, 0);
        z.set(0, 0, 0);
        Edge.edge(16, "9x1 >= 5 is left, and not forced", Due.witness(z, "n0,1;p1,1;g1;", 0), Edge.NONE);
    }

    /** Like ones together first, then what cancels: 2x2 3x2 4~x2 >= 5 becomes 1x2 >= 1. */
    private static void witnessPutMerges() {
        SlackProofs x = Due.read("p0,2;p1,3;n2,4;g5;p2,1;g0;");
        Edge.putNothing(x, 0);
        Edge.items(x, 0, 4, 4, 4);
        Edge.edge(16, "1x2 >= 1", Due.witness(x, "p0,1;g1;", 0), Edge.NONE);
        SlackProofs y = Due.read("p0,2;p1,3;n2,4;g5;p2,1;g1;");
        Edge.putNothing(y, 0);
        Edge.items(y, 0, 4, 4, 4);
        Edge.edge(16, "1x2 >= 1 is given", Due.witness(y, "p0,1;g1;", 0), 2);
        SlackProofs z = Due.read("p0,2;p1,3;n2,4;g4;");
        Edge.putNothing(z, 0);
        Edge.items(z, 0, 4, 4, 4, 1);
        Edge.edge(16, "1x2 >= 0", Due.witness(z, "p3,1;g1;", 0), 1);
        SlackProofs u = Due.read("p0,2;p1,2;n2,4;g5;");
        Edge.putNothing(u, 0);
        Edge.items(u, 0, 4, 4, 4, 1);
        Edge.edge(16, "all cancels, >= 1 is left", Due.witness(u, "p3,1;g1;", 0), Edge.NONE);
        SlackProofs w = Due.read("p0,2;p1,2;n2,4;g4;");
        Edge.putNothing(w, 0);
        Edge.items(w, 0, 4, 4, 4, 1);
        Edge.edge(16, "all cancels, >= 0 is left", Due.witness(w, "p3,1;g1;", 0), 1);
        witnessPutMergesTheGreatest();
    }

    private static void witnessPutMergesTheGreatest() {
        SlackProofs x = Due.read("p0,24;p1,25;g49;");
        int most = Edge.timesToTheGreatest(x, 0);
        Edge.putNothing(x, 0);
        Edge.items(x, 0, 4, 4);
        Edge.edge(16, "x2 with the greatest coefficient", Due.witness(x, "p0,1;g1;", 0), most + 1);
        Edge.items(x, 0, 1, 1);
        Edge.edge(16, "the greatest degree sinks to 0", Due.witness(x, "p1,1;g1;", 0), most + 2);
        Edge.items(x, 0, 4, 12);
        Edge.edge(16, "they cancel", Due.witness(x, "p0,1;p1,1;g1;", 0), most + 3);
        Edge.edge(16, "status 0", x.status(), 0);
    }

    private static void witnessNeedsAll() {
        SlackProofs x = Due.read("n0,1;p1,1;g1;");
        Edge.putNothing(x, 0);
        x.set(0, 0, 1);
        Edge.edge(16, "a live clause does not follow", Due.witness(x, "p0,1;g1;", 0), Edge.NONE);
        x.set(0, 0, 2);
        x.set(0, 1, 1);
        Edge.edge(16, "the claim does not follow", Due.witness(x, "p0,1;g1;", 0), Edge.NONE);
        x.set(0, 0, 1);
        Edge.edge(16, "both do", Due.witness(x, "p0,1;g1;", 0), 1);
        SlackProofs y = Due.read("p0,1;p1,1;p2,1;g2;");
        Edge.putNothing(y, 0);
        y.set(0, 3, 1);
        Edge.edge(16, "what is not touched must follow, too", Due.witness(y, "p3,1;g1;", 0), Edge.NONE);
        SlackProofs z = Due.read("p0,1;p1,1;g1;p0,1;p1,1;p2,1;g1;");
        Edge.putNothing(z, 0);
        z.set(0, 2, 0);
        z.set(0, 0, 1);
        z.remove(1);
        Edge.edge(16, "what is removed need not follow", Due.witness(z, "p0,1;n2,1;g1;", 0), 2);
    }

    /** Prices: less, the same, one more. */
    private static void witnessPrices() {
        String[] prices = {"m0,3;m1,2;", "m0,2;m1,2;", "m0,2;m1,3;", "m0,9;", "m1,1;", "m7,9;"};
        int[] want = {1, 1, Edge.NONE, 1, Edge.NONE, 1};
        for (int i = 0; i < prices.length; i++) {
            SlackProofs x = Due.read("p0,1;p1,1;g1;" + prices[i]);
            Edge.putNothing(x, 0);
            Edge.items(x, 0, 0, 1);
            Edge.edge(16, "x1 in place of x0, " + prices[i], Due.witness(x, "n0,1;g1;", 0), want[i]);
        }
        SlackProofs y = Due.read("g0;m0,9;m1,9;m2,9;m3,9;m4,9;m5,9;m6,9;m7,9;");
        y.row(0, 0, 8);
        Edge.edge(16, "all for 0", Due.witness(y, "n0,1;g1;", 0), 1);
        y.undo();
        Edge.items(y, 0, 1, 1, 1, 1, 1, 1, 1, 1);
        Edge.edge(16, "all for 1", Due.witness(y, "p0,1;g1;", 0), Edge.NONE);
        Edge.items(y, 0, 3, 2, 5, 4, 7, 6, 9, 8);
        Edge.edge(16, "in pairs", Due.witness(y, "p0,1;n1,1;g1;", 0), 1);
        SlackProofs z = Due.read("p0,1;g1;m1,1;");
        Edge.putNothing(z, 0);
        Edge.items(z, 0, 1, 2);
        Edge.edge(16, "1x1 ~x0 >= 1 of prices, told by itself", Due.witness(z, "p1,3;g1;", 0), Edge.NONE);
    }

    private static void solutionValues() {
        SlackProofs x = Due.read("g0;m7,1;");
        for (int values : Edge.FAR) {
            Edge.edge(17, "BAD: " + values, x.solution(values), Edge.BAD);
        }
        Edge.edge(17, "no act", x.count(6), 0);
        Edge.edge(17, "255", x.solution(255), 1);
        Edge.edge(17, "0", x.solution(0), 0);
        Edge.edge(17, "best", x.count(4), 0);
        SlackProofs y = Due.read("p0,2;n7,3;g3;");
        Edge.edge(17, "2 of 3: NONE", y.solution(129), Edge.NONE);
        Edge.edge(17, "0 of 3: NONE", y.solution(128), Edge.NONE);
        Edge.edge(17, "NONE leaves no best", y.count(4), Edge.NONE);
        Edge.edge(17, "NONE is no act", y.count(6), 0);
        Edge.edge(17, "3 of 3", y.solution(0), 0);
        Edge.edge(17, "5 of 3", y.solution(1), 0);
    }

    private static void solutionBounds() {
        String all = "g0;m0,1;m1,2;m2,3;m3,4;m4,5;m5,6;m6,7;m7,8;";
        SlackProofs x = Due.read(all);
        Edge.edge(17, "the dearest", x.solution(255), 36);
        Edge.edgeTold(17, x, 1, "1~x0 2~x1 3~x2 4~x3 5~x4 6~x5 7~x6 8~x7 >= 1");
        Edge.edge(17, "as dear: NONE", x.solution(255), Edge.NONE);
        Edge.edge(17, "one less", x.solution(254), 35);
        Edge.edge(17, "degree 2", x.degree(2), 2);
        Edge.edge(17, "nothing", x.solution(0), 0);
        Edge.edge(17, "degree: all and 1", x.degree(3), 37);
        Edge.edge(17, "a bound", x.kind(3), 3);
        Edge.edge(17, "best is the least", x.verdict(), 2);
        Edge.edge(17, "no more", x.solution(0), Edge.NONE);
        SlackProofs y = Due.read("g0;m0,9;m1,9;m2,9;m3,9;m4,9;m5,9;m6,9;m7,9;");
        Edge.edge(17, "the dearest of all", y.solution(255), 72);
        Edge.edge(17, "best", y.count(4), 72);
        SlackProofs z = Due.read("g0;m3,5;");
        z.solution(247);
        Edge.edgeTold(17, z, 1, "5~x3 >= 6");
        Edge.edge(17, "only those that have a price", z.ask(1, 0), 1 + 1 + 3 - 1000);
    }

    private static void solutionWithoutPrices() {
        SlackProofs x = Due.read("p0,1;g1;");
        Edge.fill(x);
        Edge.edge(17, "30 numbers, but nothing comes", x.solution(1), 0);
        Edge.edge(17, "best 0", x.count(4), 0);
        Edge.edge(17, "an act", x.count(6), 12);
        Edge.edge(17, "again", x.solution(255), 0);
        Edge.edge(17, "no number", x.count(2), 30);
        Edge.edge(17, "the verdict is open", x.verdict(), 0);
    }

    private static void solutionOrder() {
        SlackProofs x = Edge.full();
        x.as(0, 5);
        Edge.edge(17, "FULL", x.solution(1), Edge.FULL);
        Edge.edge(17, "FULL ahead of NONE", x.solution(2), Edge.FULL);
        Edge.edge(17, "BAD ahead of FULL", x.solution(256), Edge.BAD);
        Edge.edge(17, "the status stays", x.status(), 3);
        Edge.edge(17, "no best", x.count(4), Edge.NONE);
        SlackProofs y = Edge.beyond();
        Edge.edge(17, "OVER of what would hold", y.solution(1), Edge.OVER);
        Edge.edge(17, "OVER ahead of NONE", y.solution(2), Edge.OVER);
        Edge.edge(17, "status OVER", y.status(), 6);
        Edge.edge(17, "BAD ahead of OVER", y.solution(-1), Edge.BAD);
        Edge.edge(17, "no best", y.count(4), Edge.NONE);
        Edge.edge(17, "FULL ahead of OVER", Edge.fullAndBeyond().solution(1), Edge.FULL);
        SlackProofs z = Due.read("p0,2;n1,2;g1;");
        z.times(0, Edge.MAX);
        z.times(1, Edge.MAX);
        Edge.fill(z);
        Edge.edge(17, "without prices OVER, not FULL", z.solution(1), Edge.OVER);
        SlackProofs u = Due.read("g0;m0,1;");
        for (int i = 1; i < 29; i++) {
            u.axiom(0, 1);
        }
        Edge.edge(17, "the thirtieth is a bound", u.solution(1), 1);
        Edge.edge(17, "it came", u.kind(29), 3);
        Edge.edge(17, "no more", u.solution(0), Edge.FULL);
    }

    private static void removeKinds() {
        SlackProofs x = Edge.ofAllKinds();
        Edge.edge(18, "a given one that is needed", x.remove(0), Edge.NONE);
        Edge.edge(18, "NONE is no finding", x.status(), 0);
        Edge.edge(18, "it is live", x.kind(0), 1);
        Edge.edge(18, "a bound that is needed", x.remove(2), Edge.NONE);
        Edge.edge(18, "an axiom follows", x.remove(1), 4);
        Edge.edge(18, "a derived one", x.remove(3), 3);
        Edge.edge(18, "a claimed one", x.remove(4), 2);
        Edge.edge(18, "which are live", x.count(3), 1 | 1 << 2);
        Edge.edge(18, "numbers stay used", x.count(2), 5);
        Edge.edge(18, "the next number", x.axiom(0, 0), 5);
        SlackProofs y = Due.read("p0,1;g1;n0,1;g0;");
        y.times(0, 2);
        Edge.edge(18, "a given one that follows from a derived one", y.remove(0), 2);
        Edge.edge(18, "a derived one, even if it is needed", y.remove(2), 1);
        SlackProofs z = Due.read("p0,1;g1;p0,1;g1;");
        Edge.edge(18, "twice the same: one follows", z.remove(0), 1);
        Edge.edge(18, "then the other does not", z.remove(1), Edge.NONE);
        SlackProofs u = Due.read("g0;m0,1;");
        u.solution(1);
        u.solution(0);
        Edge.edge(18, "a bound that follows from a sharper one", u.remove(1), 2);
        Edge.edge(18, "best stays", u.count(4), 0);
    }

    private static void removeLast() {
        SlackProofs x = Due.read("g0;");
        Edge.edge(18, "the last one", x.remove(0), 0);
        Edge.edge(18, "none is live", x.count(3), 0);
        Edge.edge(18, "all values are left", x.solutions(0), 256);
        Edge.edge(18, "nothing is forced", x.forced(3, 1, 1), 3);
        Edge.edge(18, "open", x.verdict(), 0);
        Edge.edge(18, "a claim from nothing", Due.claim(x, "p0,1;g1;"), Edge.NONE);
        Edge.edge(18, "an image of nothing", x.image(0), 0);
        Edge.edge(18, "restored", x.restore(0), 0);
        Edge.edge(18, "a formula is there", x.axiom(0, 0), 1);
        SlackProofs y = Edge.full();
        Edge.edge(18, "30 numbers are no hindrance", y.remove(29), 29);
    }

    private static void removeOver() {
        SlackProofs x = Edge.beyond();
        x.axiom(3, 1);
        Edge.edge(18, "OVER: a given one", x.remove(0), Edge.OVER);
        Edge.edge(18, "status OVER", x.status(), 6);
        Edge.edge(18, "OVER: an axiom, degree 0", x.remove(3), Edge.OVER);
        Edge.edge(18, "it is live", x.kind(3), 2);
        Edge.edge(18, "no act", x.count(6), 3);
        Edge.edge(18, "a derived one goes", x.remove(1), 3);
        Edge.edge(18, "status 0", x.status(), 0);
        Edge.edge(18, "that whose sum is beyond goes", x.remove(2), 2);
        Edge.edge(18, "then the axiom goes", x.remove(3), 1);
        Edge.edge(18, "then a given one is looked at", x.remove(0), Edge.NONE);
    }

    private static void removeRefused() {
        SlackProofs x = Edge.beyond();
        x.remove(1);
        x.as(0, 5);
        int[] none = {1, 3, -1, 29, 30, 31, 32, 33, 64, Edge.MIN, Edge.MAX};
        for (int a : none) {
            Edge.edge(18, "BAD: " + a, x.remove(a), Edge.BAD);
        }
        Edge.edge(18, "BAD leaves the status", x.status(), 3);
        Edge.edge(18, "two are live", x.count(1), 2);
        Edge.edge(18, "STATE ahead of BAD", new SlackProofs().remove(-1), Edge.STATE);
    }

    private static int act(SlackProofs x, int which) {
        switch (which) {
            case 0: return x.plus(0, 0);
            case 1: return x.times(0, 2);
            case 2: return x.split(0, 2);
            case 3: return x.saturate(0);
            case 4: return x.weaken(0, 0);
            case 5: return x.axiom(5, 1);
            case 6: return Due.claim(x, "p0,1;p1,1;p7,1;g1;");
            case 7: return Due.witness(x, "n7,1;g1;", 0);
            case 8: return x.solution(1);
            default: return x.remove(1);
        }
    }

    private static void undoEach() {
        for (int which = 0; which < 10; which++) {
            SlackProofs x = Due.read("p0,2;p1,2;g2;p0,1;p1,1;p2,1;g1;m0,3;m7,1;");
            Edge.putNothing(x, 0);
            x.set(0, 7, 0);
            x.as(0, 5);
            Edge.edge(19, "act " + which, Math.min(act(x, which), 0), 0);
            Edge.edge(19, "it can be undone", x.count(6), 1);
            Edge.edge(19, "undone", x.undo(), 0);
            Edge.edge(19, "live", x.count(3), 3);
            Edge.edge(19, "numbers", x.count(2), 2);
            Edge.edge(19, "no best", x.count(4), Edge.NONE);
            Edge.edge(19, "no third", x.degree(2), Edge.BAD);
            Edge.edgeTold(19, x, 1, "1x0 1x1 1x2 >= 1");
            Edge.edge(19, "nothing more", x.undo(), Edge.STATE);
            Edge.edge(19, "the number comes again", x.axiom(0, 1), 2);
            Edge.edgeTold(19, x, 2, "1x0 >= 0");
        }
        SlackProofs y = Due.read("g0;m0,3;");
        y.solution(1);
        y.solution(0);
        Edge.edge(19, "the latest first", y.undo(), 1);
        Edge.edge(19, "the best before", y.count(4), 3);
        Edge.edge(19, "undone", y.undo(), 0);
        Edge.edge(19, "no best", y.count(4), Edge.NONE);
    }

    private static void undoTwelve() {
        for (int acts = 11; acts <= 14; acts++) {
            SlackProofs x = Due.read("g0;");
            for (int i = 0; i < acts; i++) {
                x.axiom(i % 8, 1);
            }
            int kept = Math.min(12, acts);
            Edge.edge(19, acts + " acts", x.count(6), kept);
            for (int i = kept - 1; i >= 0; i--) {
                Edge.edge(19, "can be undone yet", x.undo(), i);
                Edge.edge(19, "the latest first", x.count(2), 1 + acts - kept + i);
            }
            Edge.edge(19, "STATE: none", x.undo(), Edge.STATE);
            Edge.edge(19, "the oldest are forgotten, not undone", x.count(1), 1 + acts - kept);
        }
        SlackProofs y = Due.read("g0;");
        for (int i = 0; i < 20; i++) {
            y.axiom(0, 1);
        }
        for (int i = 0; i < 5; i++) {
            y.undo();
        }
        Edge.edge(19, "7 are left", y.count(6), 7);
        for (int i = 0; i < 8; i++) {
            y.remove(1 + i);
        }
        Edge.edge(19, "12 again", y.count(6), 12);
        for (int i = 7; i >= 0; i--) {
            y.undo();
        }
        Edge.edge(19, "removed ones live again", y.count(3), 0xffff);
        Edge.edge(19, "4 are left", y.count(6), 4);
    }

    private static void undoNothing() {
        SlackProofs x = Due.read("p0,1;g1;m0,1;");
        x.plus(0, 9);
        x.times(0, 0);
        x.remove(0);
        x.solution(0);
        Due.claim(x, "p1,1;g1;");
        Due.claim(x, "g");
        x.image(0);
        x.row(0, 0, 8);
        x.ask(0, 0);
        Edge.edge(19, "what is refused, found, looked at is no act", x.undo(), Edge.STATE);
        x.axiom(0, 1);
        x.restore(0);
        Edge.edge(19, "STATE: restored", x.undo(), Edge.STATE);
        x.axiom(0, 1);
        Due.feed(x, "g");
        x.formula();
        Edge.edge(19, "a fault leaves the acts", x.undo(), 0);
        x.axiom(0, 1);
        Due.feed(x, "g0;");
        x.formula();
        Edge.edge(19, "STATE: a new formula", x.undo(), Edge.STATE);
        Edge.edge(19, "STATE: no formula", new SlackProofs().undo(), Edge.STATE);
        x.as(0, 5);
        x.undo();
        Edge.edge(19, "STATE leaves the status", x.status(), 3);
    }

    /** Four calls to read, then in pairs: an object answers as due to its 512th call. */
    private static void theLastOf512Calls() {
        SlackProofs x = Due.read("g0;");
        for (int calls = 4; calls < 512; calls += 2) {
            Edge.edge(14, "call " + (calls + 1), x.axiom(calls % 8, 1), 1);
            Edge.edge(19, "call " + (calls + 2), x.undo(), 0);
        }
    }
}

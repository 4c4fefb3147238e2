/** Edges of promises 6 to 8: the tape, the grammar, the faults. */
final class TextEdges {
    private static final String EIGHT = "p0,1;n1,1;p2,1;n3,1;p4,1;n5,1;p6,1;n7,1;";

    private TextEdges() { }

    static void run() {
        feedBytes();
        feedTwoHundred();
        everyByteFirst();
        everyByteLater();
        everyPrefix();
        everyNumber();
        numbersOfFigures();
        eachVariableOnce();
        howManyClauses();
        clausesAndPrices();
        theFirstToken();
        theLeastOfOneToken();
        wholeTape();
        inPlaceOfTheOneBefore();
        faultIsTheLatest();
        faultOfClaims();
    }

    private static void read(String text, int want) {
        SlackProofs x = new SlackProofs();
        Due.feed(x, text);
        Edge.edge(7, "formula " + text, x.formula(), want);
        Edge.edge(7, "the tape is empty then", x.count(7), 0);
        Edge.edge(7, "clauses", x.count(1), Math.max(0, want));
        Edge.edge(8, "no fault", x.fault(), 0);
    }

    private static void faulty(String text, int place, int fault) {
        SlackProofs x = new SlackProofs();
        Due.feed(x, text);
        Edge.edge(7, "place of the fault of " + text, x.formula(), Edge.FAULT - place);
        Edge.edge(7, "the tape is empty then", x.count(7), 0);
        Edge.edge(7, "no clause", x.count(1), 0);
        Edge.edge(7, "no formula yet", x.verdict(), Edge.STATE);
        Edge.edge(8, "number of the fault of " + text, x.fault(), fault);
        Edge.edge(8, "a fault is no finding", x.status(), 0);
    }

    private static void feedBytes() {
        SlackProofs x = new SlackProofs();
        for (int letter : new int[] {-1, -2, 256, 257, Edge.MIN, Edge.MAX, -256, 'g' + 256}) {
            Edge.edge(6, "BAD: " + letter, x.feed(letter), Edge.BAD);
        }
        Edge.edge(6, "nothing came", x.count(7), 0);
        Edge.edge(6, "0", x.feed(0), 1);
        Edge.edge(6, "255", x.feed(255), 2);
        Edge.edge(6, "two came", x.count(7), 2);
    }

    private static void feedTwoHundred() {
        SlackProofs x = new SlackProofs();
        for (int round = 0; round < 2; round++) {
            for (int i = 1; i <= 200; i++) {
                Edge.edge(6, "byte " + i, x.feed('g'), i);
            }
            Edge.edge(6, "FULL: 201", x.feed('g'), Edge.FULL);
            Edge.edge(6, "BAD ahead of FULL", x.feed(256), Edge.BAD);
            Edge.edge(6, "BAD ahead of FULL", x.feed(-1), Edge.BAD);
            Edge.edge(6, "it has 200 yet", x.count(7), 200);
            Edge.edge(6, "FULL is no finding", x.status(), 0);
            Edge.edge(7, "it is read and empty", x.formula(), Edge.FAULT - 1);
        }
        Edge.edge(6, "the first again", x.feed('g'), 1);
    }

    private static boolean isOneOf(int letter, String letters) {
        return letters.indexOf(letter) >= 0;
    }

    private static void everyByteFirst() {
        for (int letter = 0; letter < 256; letter++) {
            SlackProofs x = new SlackProofs();
            x.feed(letter);
            int place = isOneOf(letter, "png") ? 1 : 0;
            Edge.edge(7, "byte " + letter + " alone", x.formula(), Edge.FAULT - place);
            Edge.edge(8, "byte " + letter + " alone", x.fault(), 1);
        }
    }

    /** What may stand behind a clause, a letter, a variable, a comma, a coefficient, a price. */
    private static void everyByteLater() {
        String figures = "0123456789";
        String[] texts = {"g0;", "g", "p", "p3", "p3,", "p3,1", "p3,1;", "g0", "g10", "g0;m", "g0;m1", "g0;m1,",
            "g0;m1,2", "g0;m1,2;", "p03", "p3,10"};
        String[] stand = {"pngm", figures, "01234567", ",", "123456789", figures + ";", "png", figures + ";", ";",
            "01234567", ",", "123456789", ";", "m", ",", ";"};
        for (int i = 0; i < texts.length; i++) {
            int from = texts[i].length();
            for (int letter = 0; letter < 256; letter++) {
                boolean stands = isOneOf(letter, stand[i]);
                if (isOneOf(letter, figures) && !stands) {
                    continue;
                }
                SlackProofs x = new SlackProofs();
                Due.feed(x, texts[i]);
                x.feed(letter);
                boolean ends = letter == ';' && texts[i].startsWith("g") && stands;
                int want = ends ? 1 : Edge.FAULT - (stands ? from + 1 : from);
                Edge.edge(7, texts[i] + " and byte " + letter, x.formula(), want);
                Edge.edge(8, texts[i] + " and byte " + letter, x.fault(), ends ? 0 : 1);
            }
        }
    }

    private static void everyPrefix() {
        String text = "p0,12;n7,3;g45;p1,9;g0;m3,4;m0,9;";
        for (int n = 0; n < text.length(); n++) {
            String prefix = text.substring(0, n);
            if (n == 15) {
                read(prefix, 1);
            } else if (n == 23 || n == 28) {
                read(prefix, 2);
            } else {
                faulty(prefix, n, 1);
            }
        }
        read(text, 2);
    }

    private static void everyNumber() {
        for (int n = 0; n < 100; n++) {
            read("g" + n + ";", 1);
            if (n < 8) {
                read("p" + n + ",1;g0;", 1);
                read("g0;m" + n + ",1;", 1);
            } else {
                faulty("p" + n + ",1;g0;", 1, 2);
                faulty("n" + n, 1, 2);
                faulty("g0;m" + n + ",1;", 4, 2);
            }
            if (n > 0) {
                read("n0," + n + ";g0;", 1);
            } else {
                faulty("n0," + n + ";g0;", 3, 2);
            }
            if (n > 0 && n < 10) {
                read("g0;m0," + n + ";", 1);
            } else {
                faulty("g0;m0," + n + ";", 6, 2);
            }
        }
        SlackProofs x = Due.read("p0,99;n7,1;g99;m7,9;m0,1;");
        Edge.edgeTold(7, x, 0, "99x0 1~x7 >= 99");
        Edge.edge(7, "price 9", x.price(7), 9);
        Edge.edge(7, "price 1", x.price(0), 1);
        Edge.edge(7, "a clause of none", Due.read("g0;").coefficient(0, 0), 0);
    }

    private static void numbersOfFigures() {
        read("g00;", 1);
        read("p07,01;g09;m07,09;", 1);
        faulty("g000;", 1, 1);
        faulty("g100;", 1, 1);
        faulty("g0000000000;", 1, 1);
        faulty("g123", 1, 1);
        faulty("p000,1;g0;", 1, 1);
        faulty("p0,001;g0;", 3, 1);
        faulty("p0,999", 3, 1);
        faulty("g0;m001,1;", 4, 1);
        faulty("g0;m1,001;", 6, 1);
        faulty("p0,00;g0;", 3, 2);
        faulty("g0;m0,00;", 6, 2);
        faulty("p08,1;g0;", 1, 2);
        faulty("g-1;", 1, 1);
        faulty("g+1;", 1, 1);
        faulty("g1 ;", 2, 1);
        faulty("g1 2;", 2, 1);
        faulty("p0,-1;g0;", 3, 1);
        SlackProofs x = Due.read("p07,09;g08;");
        Edge.edgeTold(7, x, 0, "9x7 >= 8");
    }

    private static void eachVariableOnce() {
        for (int v = 0; v < 8; v++) {
            faulty("p" + v + ",1;p" + v + ",1;g0;", 6, 2);
            faulty("p" + v + ",1;n0" + v + ",1;g0;", 6, 2);
            faulty("n" + v + ",1;p" + v, 6, 2);
            faulty("g0;m" + v + ",1;m" + v + ",2;", 9, 2);
            faulty(EIGHT + "p" + v + ",1;g0;", 41, 2);
            read("p" + v + ",1;g0;n" + v + ",1;g0;m" + v + ",1;", 2);
        }
        read(EIGHT + "g8;", 1);
        faulty(EIGHT + "p8,1;g0;", 41, 2);
        read("g0;m7,1;m6,1;m5,1;m4,1;m3,1;m2,1;m1,1;m0,1;", 1);
        faulty("g0;m7,1;m6,1;m5,1;m4,1;m3,1;m2,1;m1,1;m0,1;m", 44, 1);
        faulty("g0;m7,1;m6,1;m5,1;m4,1;m3,1;m2,1;m1,1;m0,1;m7,1;", 44, 2);
        faulty("p0,0;p0,1;g0;", 3, 2);
    }

    private static void howManyClauses() {
        for (int n = 1; n <= 8; n++) {
            read(Edge.times("g0;", n), n);
            read(Edge.times("p0,1;g1;", n), n);
        }
        String eight = Edge.times("g0;", 8);
        faulty(eight + "g0;", 24, 3);
        faulty(eight + "p0,1;g0;", 24, 3);
        faulty(eight + "n0,1;g0;", 24, 3);
        faulty(eight + "g", 24, 3);
        faulty(eight + "p9", 24, 3);
        faulty(eight + "n,", 24, 3);
        faulty(Edge.times("g0;", 12), 24, 3);
        faulty(Edge.times("g99;", 9), 32, 3);
        read(eight + "m0,1;", 8);
    }

    private static void clausesAndPrices() {
        faulty("m0,1;", 0, 1);
        faulty("m", 0, 1);
        faulty("m0,1;g0;", 0, 1);
        faulty("p0,1;m0,1;g0;", 5, 1);
        faulty("g0;m0,1;g0;", 8, 1);
        faulty("g0;m0,1;p1,1;g0;", 8, 1);
        faulty("g0;m0,1;n1,1;g0;", 8, 1);
        faulty(";", 0, 1);
        faulty("g0;;", 3, 1);
        faulty("p0,1;;g0;", 5, 1);
        faulty("g0;m0,1;;", 8, 1);
        faulty("G0;", 0, 1);
        faulty("gg0;", 1, 1);
        faulty("pp0,1;g0;", 1, 1);
        faulty("g0;\n", 3, 1);
        faulty("\u0000", 0, 1);
    }

    private static void theFirstToken() {
        faulty("p8,0;g100;", 1, 2);
        faulty("p0,0;x", 3, 2);
        faulty("x0,0;", 0, 1);
        faulty("p0 8", 2, 1);
        faulty("p0,1;p0,0;", 6, 2);
        faulty("g100;p9", 1, 1);
        faulty("g0;m9,0;", 4, 2);
        faulty(Edge.times("g0;", 7) + "g100;g0;", 22, 1);
        faulty(Edge.times("g0;", 8) + "g100;x", 24, 3);
    }

    /** 1 ahead of 2: a run of three figures; a number where none may stand. 1 ahead of 3: behind a price. */
    private static void theLeastOfOneToken() {
        faulty("p800,1;g0;", 1, 1);
        faulty("p0,000;g0;", 3, 1);
        faulty("99", 0, 1);
        faulty("g0;99", 3, 1);
        faulty("p99", 1, 2);
        faulty("p0,1;9", 5, 1);
        faulty(Edge.times("g0;", 8) + "m0,1;g0;", 29, 1);
        faulty(Edge.times("g0;", 8) + "m0,1;p", 29, 1);
        faulty(Edge.times("g0;", 8) + "x", 24, 1);
        faulty(Edge.times("g0;", 8) + "0", 24, 1);
        faulty(Edge.times("g0;", 8) + ";", 24, 1);
    }

    /** Of 200 bytes all are read; the one that had no room is missing. */
    private static void wholeTape() {
        String eight = "p0,10;n1,11;p2,12;n3,13;p4,14;n5,15;p6,16;n7,17;g99;";
        String most = Edge.times(eight, 3) + "p0,10;n1,11;p2,12;n3,13;p4,14;n5,15;p6,1;g9;";
        Edge.edge(7, "the longest text", most.length(), 200);
        SlackProofs x = new SlackProofs();
        Due.feed(x, most);
        Edge.edge(7, "200 bytes are read", x.formula(), 4);
        Edge.edge(7, "the last of them, too", x.degree(3), 9);
        Edge.edge(7, "all terms", x.coefficient(2, 7), -17);
        String more = most.substring(0, 197) + "g12;";
        SlackProofs y = new SlackProofs();
        Due.feed(y, more);
        Edge.edge(7, "the end is at 200", y.formula(), Edge.FAULT - 200);
        Edge.edge(8, "the end cannot stand there", y.fault(), 1);
        SlackProofs z = Due.read(Edge.times("g0;", 8));
        Due.feed(z, "g1;");
        Edge.edge(7, "what was on the tape before is not read again", z.formula(), 1);
    }

    private static void inPlaceOfTheOneBefore() {
        SlackProofs x = Edge.ofAllKinds();
        x.row(0, 0, 3);
        x.image(0);
        Edge.fill(x);
        x.ask(0, 0);
        x.as(0, 5);
        Due.feed(x, "n1,2;g2;p0,1;g1;m7,7;");
        Edge.edge(7, "two clauses", x.formula(), 2);
        Edge.edge(7, "live", x.count(1), 2);
        Edge.edge(7, "numbers", x.count(2), 2);
        Edge.edge(7, "which are live", x.count(3), 3);
        Edge.edge(7, "no best", x.count(4), Edge.NONE);
        Edge.edge(7, "prices", x.count(5), 7);
        Edge.edge(7, "the price before", x.price(2), 0);
        Edge.edge(7, "no act can be undone", x.count(6), 0);
        Edge.edge(7, "no act can be undone", x.undo(), Edge.STATE);
        Edge.edge(7, "given", x.kind(0), 1);
        Edge.edge(7, "given", x.kind(1), 1);
        Edge.edgeTold(7, x, 0, "2~x1 >= 2");
        Edge.edgeTold(7, x, 1, "1x0 >= 1");
        Edge.edge(7, "no third", x.degree(2), Edge.BAD);
        Edge.edge(7, "rows stay", x.count(0), 1);
        Edge.edge(7, "the trace stays", x.trace(0), 11);
        Edge.edge(7, "the status stays", x.status(), 3);
        Edge.edge(7, "the next number is 2", x.axiom(0, 0), 2);
        Edge.fill(x);
        Edge.edge(7, "there is room for 30 again", x.count(2), 30);
        Edge.edge(7, "the image stays", x.restore(0), 5);
    }

    private static void faultIsTheLatest() {
        SlackProofs x = new SlackProofs();
        Edge.edge(8, "0 before one", x.fault(), 0);
        String[] texts = {"p8", "x", "p0,0;", Edge.times("g0;", 9), "", "m"};
        int[] faults = {2, 1, 2, 3, 1, 1};
        for (int i = 0; i < texts.length; i++) {
            Due.feed(x, texts[i]);
            x.formula();
            Edge.edge(8, "fault of " + texts[i], x.fault(), faults[i]);
        }
        Due.feed(x, Edge.times("g0;", 9));
        x.formula();
        Due.feed(x, "g0;");
        x.formula();
        Edge.edge(8, "a formula that is read has none; the latest stays", x.fault(), 3);
        x.axiom(0, 1);
        x.undo();
        Edge.edge(8, "it stays", x.fault(), 3);
    }

    private static void faultOfClaims() {
        SlackProofs x = Due.read("g0;");
        Edge.putNothing(x, 0);
        String[] texts = {"", "g", "g0", "g100;", "p8,1;g0;", "p0,0;g0;", "p0,1;p0,1;g0;", "m0,1;", "g0;m0,1;",
            "g0;g0;", "g0;p0,1;g0;", "g0;x", EIGHT + "p0,1;g0;"};
        int[] places = {0, 1, 2, 1, 1, 3, 6, 0, 3, 3, 3, 3, 41};
        int[] faults = {1, 1, 1, 1, 2, 2, 2, 1, 1, 1, 1, 1, 2};
        for (int i = 0; i < texts.length; i++) {
            Edge.edge(15, "claim " + texts[i], Due.claim(x, texts[i]), Edge.FAULT - places[i]);
            Edge.edge(8, "fault of the claim " + texts[i], x.fault(), faults[i]);
            Edge.edge(15, "the tape is empty then", x.count(7), 0);
            Due.feed(x, "p99");
            x.formula();
            Edge.edge(16, "witness " + texts[i], Due.witness(x, texts[i], 0), Edge.FAULT - places[i]);
            Edge.edge(8, "fault of the witness " + texts[i], x.fault(), faults[i]);
            Edge.edge(16, "the tape is empty then", x.count(7), 0);
        }
        Edge.edge(15, "nothing came", x.count(2), 1);
        Edge.edge(15, "a claim of eight terms", Due.claim(x, EIGHT + "g0;"), 1);
        Edge.edge(8, "the latest fault stays", x.fault(), 2);
    }
}

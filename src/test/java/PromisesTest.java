/** Every promise by hand: ordinary calls, the edges that the document names, and the refusals in their order. */
public final class PromisesTest {
    private static final int LEAST = Integer.MIN_VALUE;
    private static final int GREATEST = Integer.MAX_VALUE;
    private static int wrong = 0;
    private static int promise = 0;
    private static int step = 0;

    private static void begin(int number) {
        promise = number;
        step = 0;
    }

    /** The answers that came, and behind them as many that were due. */
    private static void due(long... gotThenDue) {
        step++;
        int half = gotThenDue.length / 2;
        for (int k = 0; k < half; k++) {
            if (gotThenDue[k] != gotThenDue[half + k] || gotThenDue.length % 2 != 0) {
                wrong++;
                System.out.println("promise " + promise + ", check " + step + ", number " + (k + 1)
                        + ": answered " + gotThenDue[k] + ", due is " + gotThenDue[half + k]);
            }
        }
    }

    private static void feedAll(HandbagLady x, String text) {
        for (int k = 0; k < text.length(); k++) {
            x.feed(text.charAt(k));
        }
    }

    private static int told(HandbagLady x, String text) {
        feedAll(x, text);
        return x.bequest();
    }

    private static HandbagLady of(String text) {
        HandbagLady x = new HandbagLady();
        int answer = text.isEmpty() ? 0 : told(x, text);
        if (answer < 0) {
            wrong++;
            System.out.println("promise " + promise + ": " + text + " was answered " + answer);
        }
        return x;
    }

    private static void row(HandbagLady x, int... numbers) {
        for (int v : numbers) {
            x.row(v);
        }
    }

    /** Refusals counted as -1, -2, -3, -4, -6. */
    private static void refused(HandbagLady x, int nobody, int other, int state, int below, int room) {
        due(x.count(11), x.count(12), x.count(13), x.count(14), x.count(16), nobody, other, state, below, room);
        due(x.count(15), 0);
    }

    // A bearer with will 0 and want 9 at 0, led to 3 by a plain bag, 1 place an hour.
    private static final String LED = "b053;l090;g00;";
    // A bearer without a bag who goes from 0 to 4.
    private static final String FREE = "l940;";
    // Led 1 to and fro by a frame: out of breath behind 9, 13 and 17 hours.
    private static final String TO_AND_FRO = "b390;l050;g00;";
    // She wants 0 in spite of her crocodile: from 2 she is at the colonel's place behind 2 hours.
    private static final String SNAPPED = "b204;l902;g00;";

    public static void main(String[] args) {
        newObject();
        letters();
        bequestFaults();
        bequestStatements();
        bags();
        bearers();
        giving();
        friendship();
        wantsPutColonel();
        hours();
        kindsInAnHour();
        takingBack();
        behind();
        meetAndCompany();
        breathless();
        snaps();
        bestBag();
        hersErrandDefy();
        given();
        quiet();
        stable();
        whose();
        nextTell();
        arm();
        sleep();
        swap();
        heirAndFar();
        tiredVisitsTogetherRests();
        firstSnapAndBusy();
        tamedAndUnled();
        gatheringBestHabitFarthest();
        theRow();
        lots();
        image();
        count();
        lastHour();
        System.out.println(wrong == 0 ? "every promise held" : wrong + " checks failed");
        if (wrong != 0) {
            System.exit(1);
        }
    }

    private static void newObject() {
        begin(1);
        HandbagLady x = new HandbagLady();
        for (int what = 0; what <= 9; what++) {
            due(x.count(what), 0);
        }
        refused(x, 0, 0, 0, 0, 0);
        due(x.back(), x.restore(), x.bagOf(0, 0), x.bearerOf(0, 0), -3, -3, -1, -1);
    }

    private static void letters() {
        begin(2);
        HandbagLady x = new HandbagLady();
        due(x.feed(0), x.feed(255), 1, 2);
        due(x.feed(-1), x.feed(256), x.feed(LEAST), x.feed(GREATEST), -4, -6, -4, -6);
        due(x.count(7), 2);
        for (int k = 3; k <= 96; k++) {
            due(x.feed('c'), k);
        }
        due(x.feed('c'), x.feed(-1), x.feed(256), x.count(7), -6, -4, -6, 96);
        refused(x, 0, 0, 0, 3, 4);
    }

    private static void bequestFaults() {
        begin(3);
        HandbagLady x = new HandbagLady();
        due(x.bequest(), told(x, "b"), told(x, "b05"), told(x, "b052"), -1000, -1001, -1003, -1004);
        due(told(x, "x"), told(x, ";"), told(x, "B"), told(x, "c3;;"), -1000, -1000, -1000, -1003);
        due(told(x, "c/;"), told(x, "c:;"), told(x, "c3x"), told(x, "c33;"), -1001, -1001, -1002, -1002);
        due(told(x, "h6;"), told(x, "h6"), told(x, "g0"), told(x, "f00"), -1002, -1002, -1002, -1003);
        due(told(x, "l00"), told(x, "c3;c"), told(x, " c3;"), told(x, "c3; "), -1003, -1004, -1000, -1003);
        due(told(x, "h00;"), told(x, "h61;"), told(x, "h99;"), told(x, "b600;"), -2000, -2000, -2000, -2000);
        due(told(x, "b700;x"), told(x, "c1;b900;h00;"), -1005, -2003);
        due(told(x, "g00;"), told(x, "b000;g00;"), told(x, "l000;g00;"), told(x, "f00;"), -2000, -2005, -2005, -2000);
        due(told(x, "b000;f01;"), told(x, "b000;f10;"), told(x, "b000;l000;g10;"), told(x, "b000;l000;g01;"),
                -2005, -2005, -2010, -2010);
        due(told(x, "b000;b000;b000;b000;b000;b000;b000;"), told(x, "l000;l000;l000;l000;l000;l000;"), -2030, -2025);
        feedAll(x, "c1;c1;c1;c1;c1;c1;c1;c1;c1;c1;c1;c1;c1;c1;c1;c1;c1;c1;c1;c1;c1;c1;c1;c1;c1;c1;c1;c1;c1;c1;c1;");
        due(told(x, "b00"), -1096);
        due(x.count(0), x.count(1), x.count(2), x.count(3), x.count(7), 0, 0, 0, 0, 0);
        refused(x, 0, 0, 0, 0, 0);
        x.colonel(4);
        due(told(x, "c5;h00;"), x.count(9), x.count(3), -2003, 1, 4);
        due(told(x, "c5;"), x.count(9), x.count(3), 1, 0, 5);
    }

    private static void bequestStatements() {
        begin(3);
        HandbagLady x = new HandbagLady();
        due(told(x, "b599;b000;l999;l000;g01;g10;f01;c9;h01;"), 9);
        due(x.bagOf(0, 0), x.bagOf(0, 1), x.bagOf(0, 2), x.bagOf(0, 3), x.bagOf(0, 4), x.bagOf(0, 5), 5, 9, 9, 1, 1, 1);
        due(x.bagOf(1, 0), x.bagOf(1, 1), x.bagOf(1, 2), x.bagOf(1, 3), x.bagOf(1, 4), x.bagOf(1, 5), 0, 0, 0, 0, 1, 0);
        due(x.bearerOf(0, 0), x.bearerOf(0, 1), x.bearerOf(0, 2), x.bearerOf(0, 3), 9, 9, 9, 1);
        due(x.bearerOf(1, 0), x.bearerOf(1, 1), x.bearerOf(1, 2), x.bearerOf(1, 3), 0, 0, 9, 0);
        due(x.count(2), x.count(3), x.count(7), 1, 9, 0);
        due(told(x, "f00;g00;"), x.bagOf(0, 3), x.bagOf(1, 3), x.bagOf(0, 5), x.bearerOf(1, 3), x.bearerOf(0, 3),
                2, -9, -9, 0, -9, 0);
        due(x.bagOf(1, 5), x.bagOf(0, 4), -9, 0);
        feedAll(x, "c1;c1;c1;c1;c1;c1;c1;c1;c1;c1;c1;c1;c1;c1;c1;c1;c1;c1;c1;c1;c1;c1;c1;c1;c1;c1;c1;c1;c1;c1;c1;");
        due(told(x, "c2;"), x.count(3), 32, 2);
        HandbagLady y = new HandbagLady();
        due(told(y, "h60;h60;h60;h60;h60;h60;h60;h60;h60;h60;h60;h60;h60;h60;h60;h60;"), y.count(2), 16, 960);
        due(told(y, "h39;h01;"), y.count(2), told(y, "h40;"), told(y, "h39;"), y.count(2), -2004, 960, -2000, 1, 999);
    }

    private static void bags() {
        begin(6);
        HandbagLady x = new HandbagLady();
        due(x.bag(-1, -1, -1), x.bag(6, 10, 10), x.bag(LEAST, 0, 0), x.bag(GREATEST, 0, 0), -2, -2, -2, -2);
        due(x.bag(0, -1, 10), x.bag(0, 10, -1), x.bag(0, 10, 0), x.bag(0, 0, 10), -4, -4, -6, -6);
        due(x.bag(0, 5, 1), x.bag(1, 5, 2), x.bag(2, 5, 3), x.bag(3, 5, 4), x.bag(4, 5, 9), x.bag(5, 9, 0), 0, 1, 2, 3, 4, 5);
        due(x.bag(0, 0, 0), x.bag(0, -1, 0), x.bag(6, 0, 0), x.count(0), -6, -4, -2, 6);
        refused(x, 0, 5, 0, 3, 3);
        begin(4);
        for (int b = 0; b < 6; b++) {
            due(x.bagOf(b, 0), x.bagOf(b, 1), x.bagOf(b, 3), x.bagOf(b, 4), x.bagOf(b, 5), b, b == 5 ? 9 : 5, -9, 0, -9);
        }
        due(x.bagOf(0, 2), x.bagOf(1, 2), x.bagOf(4, 2), x.bagOf(5, 2), 1, 2, 9, 0);
        due(x.bagOf(0, 6), x.bagOf(1, 6), x.bagOf(2, 6), x.bagOf(3, 6), x.bagOf(4, 6), x.bagOf(5, 6), 5, 5, 9, 2, 5, 18);
        due(x.bagOf(6, 9), x.bagOf(-1, 0), x.bagOf(0, -1), x.bagOf(0, 7), x.bagOf(LEAST, 0), x.bagOf(0, GREATEST),
                -1, -1, -2, -2, -1, -2);
        refused(x, 3, 8, 0, 3, 3);
        told(x, "l000;l000;g10;g51;h03;");
        due(x.bagOf(1, 4), x.bagOf(1, 6), x.bagOf(5, 4), x.bagOf(5, 6), x.bagOf(0, 4), 3, 8, 3, 24, 0);
        x.hours(60);
        x.hours(60);
        due(x.bagOf(1, 4), x.bagOf(1, 6), x.bagOf(5, 6), x.bagOf(1, 5), x.bagOf(5, 5), 99, 104, 216, 0, 1);
        x.friends(4, 0);
        due(x.bagOf(4, 3), x.bagOf(0, 3), x.bagOf(4, 6), 0, 4, 5);
        x.gives(0, 0);
        due(x.bagOf(4, 6), x.bagOf(1, 5), x.bagOf(1, 4), 7, -9, 99);
    }

    private static void bearers() {
        begin(7);
        HandbagLady x = new HandbagLady();
        due(x.bearer(-1, 10, 0), x.bearer(10, -1, 0), x.bearer(0, 10, -1), x.bearer(LEAST, 0, 0), -4, -4, -4, -4);
        due(x.bearer(10, 0, 0), x.bearer(0, 10, 0), x.bearer(0, 0, 10), x.bearer(GREATEST, 0, 0), -6, -6, -6, -6);
        due(x.bearer(1, 2, 3), x.bearer(9, 9, 9), x.bearer(0, 0, 0), x.bearer(0, 0, 0), x.bearer(0, 0, 0), 0, 1, 2, 3, 4);
        due(x.bearer(0, 0, 0), x.bearer(0, 0, -1), x.count(1), -6, -4, 5);
        refused(x, 0, 0, 0, 5, 5);
        begin(5);
        due(x.bearerOf(0, 0), x.bearerOf(0, 1), x.bearerOf(0, 2), x.bearerOf(0, 3), x.bearerOf(0, 4), x.bearerOf(0, 5),
                1, 2, 3, -9, 9, 0);
        due(x.bearerOf(5, 6), x.bearerOf(-1, 0), x.bearerOf(0, 6), x.bearerOf(0, -1), x.bearerOf(GREATEST, 0), -1, -1, -2, -2, -1);
        refused(x, 3, 2, 0, 5, 5);
        // A pull as great as the will does not lead; one above it does, out of breath too.
        HandbagLady y = of("b050;b060;l500;g00;");
        due(y.bearerOf(0, 5), 0);
        y.gives(1, 0);
        due(y.bearerOf(0, 5), y.bearerOf(0, 3), 1, 1);
        HandbagLady z = of(TO_AND_FRO + "h09;");
        due(z.bearerOf(0, 4), z.bearerOf(0, 5), z.bearerOf(0, 2), 0, 1, 1);
    }

    private static void giving() {
        begin(8);
        HandbagLady x = of("b150;b150;l999;l999;");
        due(x.gives(2, 0), x.gives(0, 2), x.gives(-1, 0), x.gives(0, -1), x.count(9), -1, -1, -1, -1, 0);
        due(x.gives(0, 0), x.gives(1, 0), x.gives(0, 1), x.count(4), -9, 0, -9, 2);
        due(x.hours(4), x.bagOf(0, 4), x.bagOf(1, 4), 0, 4, 4);
        due(x.gives(1, 1), x.bagOf(1, 5), x.bagOf(0, 5), x.bearerOf(0, 3), x.bagOf(1, 4), x.count(4), 0, 1, -9, -9, 0, 1);
        x.hours(3);
        due(x.bagOf(1, 4), x.gives(1, 1), x.bagOf(1, 4), x.bagOf(1, 5), x.bearerOf(1, 3), 3, 1, 0, 1, 1);
        refused(x, 4, 0, 0, 0, 0);
    }

    private static void friendship() {
        begin(9);
        HandbagLady x = of("b000;b000;b000;b000;");
        due(x.friends(0, 1), x.friends(2, 3), x.friends(1, 2), 1, 1, 1);
        due(x.bagOf(0, 3), x.bagOf(1, 3), x.bagOf(2, 3), x.bagOf(3, 3), -9, 2, 1, -9);
        due(x.friends(1, 1), x.bagOf(1, 3), x.bagOf(2, 3), 0, -9, -9);
        due(x.friends(0, 3), x.friends(3, 0), x.bagOf(0, 3), x.bagOf(3, 3), 1, 1, 3, 0);
        due(x.friends(4, 0), x.friends(0, 4), x.friends(-1, -1), x.friends(GREATEST, 0), -1, -1, -1, -1);
        refused(x, 4, 0, 0, 0, 0);
    }

    private static void wantsPutColonel() {
        begin(10);
        HandbagLady x = of("l123;");
        due(x.wants(0, 9), x.wants(0, 0), x.wants(0, 0), 2, 9, 0);
        due(x.wants(0, 10), x.wants(0, -1), x.wants(1, 0), x.wants(-1, 0), -1, -1, -1, -1);
        begin(11);
        due(x.put(0, 9), x.put(0, 0), x.put(0, 0), x.bearerOf(0, 2), 3, 9, 0, 0);
        due(x.put(0, 10), x.put(0, -1), x.put(1, 0), x.put(-1, 0), -1, -1, -1, -1);
        begin(12);
        due(x.colonel(9), x.colonel(3), x.colonel(3), x.count(3), 0, 9, 3, 3);
        due(x.colonel(10), x.colonel(-1), x.colonel(LEAST), x.count(3), -1, -1, -1, 3);
        refused(x, 11, 0, 0, 0, 0);
    }

    private static void hours() {
        begin(13);
        HandbagLady x = of(SNAPPED);
        due(x.hours(0), x.hours(-1), x.hours(61), x.hours(LEAST), x.hours(GREATEST), -4, -4, -6, -4, -6);
        due(x.hours(1), x.count(2), x.bearerOf(0, 2), x.hours(1), x.bearerOf(0, 2), 0, 1, 1, 1, 0);
        due(x.hours(3), x.count(2), 3, 5);
        x.colonel(5);
        due(x.hours(60), x.count(2), 0, 65);
        refused(x, 0, 0, 0, 3, 2);
        // Each of two with a crocodile is snapped at.
        due(of("b200;b200;l900;l900;g00;g11;").hours(4), 8);
        due(of("b000;b100;l900;l900;g00;g11;").hours(4), 0);
    }

    private static void kindsInAnHour() {
        begin(13);
        // A bag: 1 place an hour to its habit, each costs breath; being there costs none.
        HandbagLady x = of(LED + "h02;");
        due(x.bearerOf(0, 2), x.bearerOf(0, 4), 2, 7);
        x.hours(2);
        due(x.bearerOf(0, 2), x.bearerOf(0, 4), 3, 6);
        // Alike both ways: upward. Shorter downward, round from 0 to 9.
        due(of("b055;l000;g00;h01;").bearerOf(0, 2), of("b056;l000;g00;h01;").bearerOf(0, 2), 1, 9);
        due(of("l950;h01;").bearerOf(0, 2), of("l960;h01;").bearerOf(0, 2), of("l909;h01;").bearerOf(0, 2), 1, 9, 0);
        // An old one: 2 places an hour, not beyond its habit.
        HandbagLady old = of("b513;l000;g00;h01;");
        due(old.bearerOf(0, 2), old.bearerOf(0, 4), 2, 7);
        old.hours(1);
        due(old.bearerOf(0, 2), old.bearerOf(0, 4), 3, 6);
        // A crocodile: 5 on from the colonel.
        due(of("b200;l003;g00;c9;h01;").bearerOf(0, 2), of("b200;l003;g00;c9;h05;").bearerOf(0, 2), 4, 4);
        // A frame: her want in odd hours, its habit in even ones.
        due(of("b390;l053;g00;h01;").bearerOf(0, 2), of("b390;l053;g00;h02;").bearerOf(0, 2), 4, 3);
        // A pair: to her who has its friend, where she is by then; else to its habit.
        HandbagLady pair = of("b404;b000;l940;l900;l900;g01;f01;");
        due(pair.behind(1, 1, 0), pair.behind(1, 1, 2), 0, 0);
        pair = of("b494;b000;l940;l890;g10;g01;f01;");
        due(pair.behind(1, 1, 0), pair.behind(1, 3, 0), pair.behind(1, 3, 2), 1, 3, 3);
        pair = of("b494;b000;l890;l940;g00;g11;f01;");
        due(pair.behind(0, 1, 0), pair.behind(0, 2, 0), pair.behind(0, 6, 0), 0, 1, 4);
        due(of("b494;b000;l890;g00;f01;").behind(0, 2, 0), 2);
        // A widow's grows as it is held: 2 held is 5, above 4 in the third hour.
        HandbagLady widow = of("b135;l490;g00;");
        due(widow.behind(0, 1, 0), widow.behind(0, 2, 0), widow.behind(0, 3, 0), widow.behind(0, 3, 2), 9, 9, 8, 1);
        due(widow.behind(0, 0, 3), widow.behind(0, 3, 3), widow.behind(0, 60, 3), 3, 6, 63);
        // Breath comes again 1 an hour, 9 at most.
        HandbagLady free = of(LED + "h02;");
        free.gives(0, 0);
        due(told(free, "b000;l000;g01;"), 3);
        due(free.behind(0, 1, 1), free.behind(0, 2, 1), free.behind(0, 3, 1), 8, 9, 9);
        due(free.behind(0, 1, 0), free.behind(0, 3, 0), 1, 9);
    }

    private static void takingBack() {
        begin(14);
        HandbagLady x = of("b155;l111;h05;");
        due(x.back(), x.count(13), -3, 1);
        x.gives(0, 0);
        x.wants(0, 7);
        x.put(0, 8);
        x.colonel(9);
        due(x.count(9), x.back(), x.count(3), 4, 3, 0);
        due(x.back(), x.bearerOf(0, 2), x.bearerOf(0, 1), 2, 1, 7);
        due(x.back(), x.bearerOf(0, 1), x.bearerOf(0, 3), 1, 1, 0);
        due(x.back(), x.bearerOf(0, 3), x.bagOf(0, 5), x.back(), 0, -9, -9, -3);
        for (int k = 1; k <= 9; k++) {
            x.colonel(k);
        }
        due(x.count(9), 8);
        for (int k = 8; k >= 1; k--) {
            due(x.back(), x.count(3), k - 1, k);
        }
        due(x.back(), x.count(3), -3, 1);
        // Changes that leave all as it was count; refused ones don't, and take none away.
        x.colonel(1);
        due(x.colonel(10), x.gives(1, 0), x.wants(1, 0), x.put(0, 10), x.hours(0), x.bag(6, 0, 0), -1, -1, -1, -1, -4, -2);
        due(x.bearer(10, 0, 0), x.friends(0, 1), x.restore(), x.count(9), -6, -1, -3, 1);
        due(x.back(), x.count(9), 0, 0);
        // What was held is so again.
        x.gives(0, 0);
        x.hours(4);
        x.gives(0, 0);
        due(x.bagOf(0, 4), x.back(), x.bagOf(0, 4), 0, 0, 4);
        // Letters, row and image leave it; these leave none.
        x.colonel(2);
        x.feed('c');
        x.row(1);
        x.image();
        x.judge(0);
        x.clear();
        due(x.count(9), x.bequest(), x.count(9), 1, -1001, 1);
        due(x.restore(), x.count(9), 9, 0);
        x.colonel(2);
        due(x.bag(0, 0, 0), x.count(9), 1, 0);
        x.colonel(2);
        due(x.bearer(0, 0, 0), x.count(9), 1, 0);
        x.colonel(2);
        due(x.friends(0, 0), x.count(9), 0, 0);
        x.colonel(2);
        due(x.hours(1), x.count(9), 0, 0);
        x.colonel(2);
        due(told(x, "c0;"), x.count(9), 1, 0);
    }

    private static void behind() {
        begin(15);
        HandbagLady x = of(TO_AND_FRO + "l940;");
        due(x.behind(0, 0, 0), x.behind(0, 0, 1), x.behind(0, 0, 2), x.behind(0, 0, 3), 0, 9, 0, 4);
        due(x.behind(0, 9, 0), x.behind(0, 9, 1), x.behind(0, 9, 2), 1, 0, 9);
        due(x.behind(0, 10, 0), x.behind(0, 10, 1), x.behind(0, 10, 2), 1, 3, 9);
        due(x.behind(0, 18, 0), x.behind(0, 18, 1), x.behind(0, 18, 2), 3, 3, 15);
        due(x.behind(1, 3, 0), x.behind(1, 60, 0), x.behind(1, 60, 1), x.behind(1, 60, 2), x.behind(1, 60, 3), 3, 4, 9, 0, -9);
        due(x.behind(2, -1, 4), x.behind(-1, 0, 0), x.behind(0, -1, 4), x.behind(0, 61, 4), x.behind(0, 60, 4), x.behind(0, 0, -1),
                -1, -1, -4, -6, -2, -2);
        due(x.count(2), x.bearerOf(0, 2), x.bagOf(0, 4), 0, 0, 0);
        refused(x, 2, 2, 0, 1, 1);
        // The last breath is spent by an old one's two places, none is below 0.
        HandbagLady old = of("b590;l055;g00;");
        due(old.behind(0, 3, 0), old.behind(0, 3, 1), 0, 4);
        HandbagLady last = of("b391;b595;l000;g00;h09;g10;");
        due(last.bearerOf(0, 4), last.behind(0, 1, 0), last.behind(0, 1, 1), last.behind(0, 2, 0), 1, 2, 0, 2);
    }

    private static void meetAndCompany() {
        begin(16);
        HandbagLady x = of("l940;l949;l900;");
        due(x.meet(0, 1), x.meet(1, 0), x.meet(0, 2), x.meet(1, 2), 5, 5, 0, 1);
        due(x.meet(0, 0), x.meet(3, 0), x.meet(0, 3), x.meet(-1, 0), x.meet(LEAST, GREATEST), -1, -1, -1, -1, -1);
        due(of("l900;l911;").meet(0, 1), -9);
        // The sixtieth hour counts.
        due(of("b357;b377;l055;l646;l019;l259;g10;g01;g02;g13;f11;c4;h02;").meet(2, 3), 60);
        begin(17);
        due(x.company(0, 0), x.company(0, 1), x.company(1, 0), x.company(1, 1), x.company(60, 0), x.company(60, 1), 2, 0, 2, 0, 2, 4);
        due(x.company(2, 0), x.company(2, 1), 1, 0);
        HandbagLady apart = of("l997;l993;l995;");
        due(apart.company(0, 0), apart.company(0, 1), 1, 3);
        due(x.company(-1, 2), x.company(61, 2), x.company(0, 2), x.company(0, -1), -4, -6, -2, -2);
        refused(x, 5, 2, 0, 1, 1);
        HandbagLady none = new HandbagLady();
        due(none.company(60, 0), none.company(60, 1), 0, 0);
    }

    private static void breathless() {
        begin(18);
        HandbagLady x = of(FREE + "b390;l050;g01;b394;l092;g12;");
        due(x.breathless(1), x.breathless(2), x.breathless(0), x.breathless(-1), 9, 9, -9, 1);
        due(x.breathless(-2), x.breathless(3), x.breathless(LEAST), x.breathless(GREATEST), -1, -1, -1, -1);
        refused(x, 4, 0, 0, 0, 0);
        due(of(TO_AND_FRO + "h09;").breathless(0), of(TO_AND_FRO + "h09;").breathless(-1), 0, 0);
        due(of(TO_AND_FRO + "h10;").breathless(0), of(FREE).breathless(-1), new HandbagLady().breathless(-1), 3, -9, -9);
        HandbagLady second = of("b390;b390;l050;l050;g00;g11;h03;g10;");
        due(second.breathless(-1), 0);
        second = of("b390;l050;g00;h04;b390;l050;g11;g01;g10;");
        due(second.breathless(0), second.breathless(1), second.breathless(-1), 5, 9, 0);
        second = of("b390;l050;l050;g01;h04;b390;g10;");
        due(second.breathless(0), second.breathless(1), second.breathless(-1), 9, 5, 1);
        // One led to where she is keeps her last breath.
        HandbagLady still = of("b390;l050;g00;h08;b090;g10;l050;g01;");
        due(still.bearerOf(0, 4), still.breathless(0), still.breathless(1), still.breathless(-1), 1, -9, 9, 1);
    }

    private static void snaps() {
        begin(19);
        HandbagLady x = of(SNAPPED + LED.replace("g00", "g11"));
        due(x.snaps(0, 0), x.snaps(1, 0), x.snaps(2, 0), x.snaps(5, 0), x.snaps(60, 0), 0, 0, 1, 4, 59);
        due(x.snaps(0, 1), x.snaps(5, 1), x.snaps(1, 1), 0, 2, 0);
        due(x.snaps(0, 2), x.snaps(5, 2), 0, 0);
        due(x.snaps(-1, 3), x.snaps(61, 3), x.snaps(0, 3), x.snaps(0, -1), -4, -6, -2, -2);
        due(x.count(2), x.count(3), 0, 0);
        refused(x, 0, 2, 0, 1, 1);
        due(of(LED + FREE).snaps(1, 2), of(LED + FREE).snaps(0, 2), new HandbagLady().snaps(9, 2), 1, 0, -9);
        // Nobody without a crocodile is snapped at.
        due(of("b000;l900;l900;g00;").snaps(60, 0), 0);
        // Led hours are fewer for her who rests.
        due(of("b099;b390;l000;l050;g00;g11;").snaps(60, 2), 1);
    }

    private static void bestBag() {
        begin(20);
        HandbagLady x = of("b052;b054;b554;b554;l000;l990;g21;");
        due(x.bestBag(0, 4, 0), x.bestBag(0, 4, 1), x.bestBag(0, 2, 0), x.bestBag(0, 2, 1), 2, 2, 2, 1);
        due(x.bestBag(0, 0, 0), x.bestBag(0, 0, 1), x.bestBag(0, 7, 0), x.bestBag(0, 7, 1), 0, 0, -9, -9);
        due(x.bearerOf(1, 3), x.bearerOf(0, 3), 2, -9);
        due(x.bestBag(2, 0, 2), x.bestBag(0, 10, 2), x.bestBag(0, -1, 0), x.bestBag(-1, 0, 0), -1, -1, -1, -1);
        due(x.bestBag(0, 0, 2), x.bestBag(0, 0, -1), -2, -2);
        refused(x, 4, 2, 0, 0, 0);
        due(of(FREE).bestBag(0, 0, 0), of(FREE).bestBag(0, 0, 1), -9, -9);
        // Who had it has none then: its pair's friend is had by nobody, so that it leads to its habit.
        HandbagLady y = of("b493;b055;l040;l099;g00;g11;f01;");
        // As it is now she goes behind the other, round over 9, and is at 5 no later than by bag 1.
        due(y.bestBag(0, 5, 0), y.bestBag(0, 5, 1), y.bestBag(0, 2, 0), y.bestBag(0, 2, 1), 0, 5, 1, 2);
        due(y.bestBag(1, 3, 0), y.bestBag(1, 3, 1), 0, 4);
    }

    private static void hersErrandDefy() {
        begin(21);
        HandbagLady x = of("b130;b050;b090;l599;l900;l599;l000;g00;g11;g22;");
        due(x.hers(0), x.hers(1), x.hers(2), x.hers(3), 3, -9, 0, -9);
        due(x.hers(4), x.hers(-1), -1, -1);
        due(of("b100;l990;g00;").hers(0), of(TO_AND_FRO + "h09;").hers(0), 10, 0);
        due(of("b500;l990;g00;").hers(0), of("b500;l890;g00;").hers(0), of("b500;l090;g00;").hers(0), 5, 5, 1);
        begin(22);
        HandbagLady y = of("b054;l400;g00;");
        due(y.errand(0, 4), y.errand(0, 0), y.errand(0, 2), y.errand(0, 7), 4, 0, 2, -9);
        due(y.errand(0, 10), y.errand(0, -1), y.errand(1, 0), y.errand(-1, 0), y.bearerOf(0, 1), -1, -1, -1, -1, 0);
        due(of(FREE).errand(0, 5), of(FREE).errand(0, 8), 5, 2);
        begin(23);
        due(y.defy(0, 7, 3), y.defy(0, 7, 2), y.defy(0, 4, 4), y.defy(0, 4, 3), y.defy(0, 0, 0), 5, -9, 0, -9, 0);
        due(y.defy(1, 0, -1), y.defy(0, 10, -1), y.defy(0, -1, 61), y.defy(0, 0, -1), y.defy(0, 0, 61), -1, -1, -1, -4, -6);
        due(of("b594;l000;g00;").defy(0, 7, 60), of(FREE).defy(0, 4, 4), y.bearerOf(0, 0), -9, 0, 4);
        refused(y, 7, 0, 0, 1, 1);
    }

    private static void given() {
        begin(24);
        // Bag 0 leads to 3, bag 1 to 7; without them they stay at 2 and 8, 4 apart.
        HandbagLady x = of("b053;b057;l022;l088;");
        due(x.given(0, 1, -1), x.given(0, 1, 0), x.given(0, 1, 1), x.given(0, 1, 2), -9, 0, 1, -9);
        x = of("b055;b057;b050;l022;l088;");
        due(x.given(0, 1, -1), x.given(0, 1, 0), x.given(0, 1, 1), x.given(1, 0, 1), 3, 1, 0, 0);
        // From 0 and 6: to 8 and 8 they meet behind 2 hours, by any other way later.
        x = of("b052;b058;b094;b058;l000;l066;");
        due(x.given(0, 1, -1), x.given(0, 1, 0), x.given(0, 1, 1), x.given(1, 0, -1), 2, 1, 3, 2);
        due(x.given(0, 1, 2), x.given(0, 1, GREATEST), x.bearerOf(0, 3), x.count(4), -9, -9, -9, 0);
        // At one place already: the first way.
        x = of("b000;b000;l000;l000;l900;g10;");
        due(x.given(1, 0, -1), x.given(1, 0, 0), x.given(1, 0, 1), x.given(1, 0, 2), 0, 0, 1, -9);
        // One bag for two: who has none goes to her want.
        x = of("b053;l900;l033;");
        due(x.given(0, 1, -1), x.given(0, 1, 0), x.given(0, 1, 1), -9, 0, -9);
        x = of("b053;l000;l033;");
        due(x.given(0, 1, -1), x.given(0, 1, 0), x.given(0, 1, 1), 3, 0, -9);
        x = of("b053;l033;l000;");
        due(x.given(0, 1, -1), x.given(0, 1, 0), x.given(0, 1, 1), 3, -9, 0);
        due(x.given(2, 0, -2), x.given(0, 2, -2), x.given(0, 0, 0), x.given(-1, 0, 0), x.given(0, 1, -2), -1, -1, -1, -1, -4);
        // What is held now is held 0 by any way.
        HandbagLady held = of("b105;l000;l055;g00;h01;");
        due(held.given(0, 1, -1), held.meet(0, 1), held.bagOf(0, 4), 6, 5, 1);
        told(x, "l000;l000;");
        due(x.given(0, 1, -1), x.given(0, 1, 3), 3, -9);
        told(x, "l000;");
        due(x.given(0, 1, -1), x.given(0, 1, -2), x.given(0, 5, 0), -3, -4, -1);
        refused(x, 5, 0, 1, 2, 0);
    }

    private static void quiet() {
        begin(25);
        HandbagLady x = of("b050;b030;b010;l400;l200;");
        due(x.quiet(10, -1), x.quiet(10, 0), x.quiet(10, 1), x.quiet(10, 2), 0, 1, 2, -9);
        due(x.quiet(0, -1), x.quiet(0, 0), x.quiet(0, 1), 0, 0, 1);
        HandbagLady y = of("b050;b090;l400;l600;l000;");
        due(y.quiet(10, -1), y.quiet(10, 0), y.quiet(10, 1), y.quiet(10, 2), 10, 1, 0, -9);
        // A widow's leads later and so less.
        HandbagLady z = of("b150;b060;l500;g00;h09;");
        due(z.quiet(10, -1), z.quiet(10, 0), 9, 0);
        due(x.quiet(61, -2), x.quiet(-1, -1), x.quiet(61, -1), x.quiet(60, -2), x.quiet(LEAST, 0), -4, -4, -6, -4, -4);
        HandbagLady five = of("l000;l000;l000;l000;l000;");
        due(five.quiet(61, -1), five.quiet(0, 0), -6, -3);
        refused(x, 0, 0, 0, 4, 1);
        refused(five, 0, 0, 1, 0, 1);
        due(new HandbagLady().quiet(60, -1), new HandbagLady().quiet(60, 0), 0, -9);
    }

    private static void stable() {
        begin(26);
        // Pulls: 5, 3, 6, 4, 4, 8. Wills: 3, 1, 3, 9, 0.
        HandbagLady x = of("b050;b130;b220;b390;b440;b540;l300;l100;l300;l900;l000;f40;g00;h05;");
        due(x.stable(4), x.stable(1), x.stable(0), x.stable(2), x.stable(3), 1, 3, 4, 0, 2);
        due(x.stable(5), x.stable(-1), x.stable(GREATEST), -1, -1, -1);
        HandbagLady y = of("b050;b030;l300;l100;l100;");
        due(y.stable(0), y.stable(1), y.stable(2), -9, 1, 0);
        due(of(FREE).stable(0), -9);
        refused(x, 3, 0, 0, 0, 0);
    }

    private static void whose() {
        begin(27);
        // At 0, led to 3 with figure 5 above will 4; want 9.
        HandbagLady x = of("b053;l490;g00;c0;l900;");
        due(x.whose(0, 0), x.whose(0, 1), x.whose(0, 2), x.whose(0, 3), 63, 1023, 1023, 1023);
        row(x, 0, 1, 2);
        // A frame's pull is 2: not led. A crocodile goes to 5: upward, too. A widow's, a pair and an old one: 2 places is too far.
        due(x.whose(0, 0), x.whose(0, 1), x.whose(0, 2), x.whose(0, 3), 1 | 2 | 4 | 16, 1 << 5 | 1 << 6 | 1 << 7 | 1 << 8 | 1 << 9,
                1 << 2 | 1 << 3 | 1 << 4 | 1 << 5, 31);
        due(x.count(8), x.whose(1, 0), x.whose(1, 1), x.whose(1, 2), x.whose(1, 3), 3, 0, 0, 0, 0);
        due(x.whose(2, 4), x.whose(-1, 0), x.whose(0, 4), x.whose(0, -1), x.whose(1, 4), -1, -1, -2, -2, -2);
        row(x, 10);
        due(x.whose(0, 0), x.whose(0, 3), x.count(8), 0, 0, 4);
        x.clear();
        row(x, 1);
        due(x.whose(0, 0), 0);
        refused(x, 2, 3, 0, 0, 0);
    }

    private static void nextTell() {
        begin(28);
        // Figure 9, will 0, habit 3, from 0, want 0: behind 1 hour bag, widow's, pair: 1; old: 2; frame (odd hour): 0;
        // crocodile to 5 on from the colonel: 9 if that is 6 .. 9, that is with the colonel at 1 .. 4.
        HandbagLady x = of("b093;l000;g00;");
        due(x.nextTell(0, 1, 0), x.nextTell(0, 1, 1), x.nextTell(0, 0, 0), x.nextTell(0, 0, 1), 1, 4, 0, 1);
        due(of(FREE).nextTell(0, 60, 0), of(FREE).nextTell(0, 60, 1), 0, 1);
        due(x.nextTell(1, -1, 2), x.nextTell(-1, 0, 0), x.nextTell(0, -1, 2), x.nextTell(0, 61, 2), x.nextTell(0, 0, 2),
                x.nextTell(0, 0, -1), -1, -1, -4, -6, -2, -2);
        due(of(FREE).nextTell(0, 0, 2), x.bagOf(0, 0), x.count(3), -2, 0, 0);
        refused(x, 2, 2, 0, 1, 1);
    }

    private static void arm() {
        begin(29);
        // 5 above 2 is 3; 9 above 5 is 4: the second leads, to 6; without her the first to 2.
        HandbagLady x = of("b052;b096;l230;l588;g00;g11;");
        due(x.arm(0, 1, 0), x.arm(0, 1, 1), x.arm(0, 1, 60), x.arm(1, 0, 0), x.arm(1, 0, 1), 0, 9, 6, 8, 7);
        due(x.bearerOf(0, 2), x.bearerOf(1, 2), x.count(2), 0, 8, 0);
        // Alike: the first. Neither: the want of the first.
        HandbagLady y = of("b052;b098;l230;l600;g00;g11;");
        due(y.arm(0, 1, 1), y.arm(1, 0, 1), y.arm(0, 1, 5), 1, 9, 2);
        HandbagLady z = of("b052;b098;l930;l960;g00;g11;");
        due(z.arm(0, 1, 2), z.arm(1, 0, 1), z.arm(0, 1, 60), 2, 9, 3);
        // An old one goes 2; breath does not count and held stays; others stay.
        due(of("b595;l000;l000;g00;").arm(0, 1, 2), of("b595;l000;l000;g00;").arm(1, 0, 3), 4, 5);
        due(of("b150;l590;l590;g00;").arm(0, 1, 9), of("b150;l495;l495;g00;").arm(0, 1, 9), 9, 0);
        due(of("b394;l900;l050;l050;g01;h09;").arm(1, 2, 1), of("b394;l900;l050;l050;g01;h09;").arm(1, 2, 2), 4, 5);
        // A pair's friend on the other's arm is where they are; on a third's arm it stays.
        due(of("b494;b004;l033;l000;g00;g11;f01;").arm(0, 1, 5), of("b494;b000;l033;l000;l988;g00;g12;f01;").arm(0, 1, 2), 3, 5);
        // A frame: in an odd hour its bearer's want, though the other is the first.
        due(of("b395;l070;l020;g01;").arm(0, 1, 1), of("b395;l070;l020;g01;").arm(0, 1, 2), 1, 2);
        due(x.arm(0, 0, -1), x.arm(0, 2, -1), x.arm(2, 0, 0), x.arm(0, -1, 0), x.arm(0, 1, -1), x.arm(0, 1, 61), -1, -1, -1, -1, -4, -6);
        refused(x, 4, 0, 0, 1, 1);
    }

    private static void sleep() {
        begin(30);
        // Led to 5, up from 0, down from 9; asleep she goes down to 8: behind 2 hours she is
        // at 2 if it was awake twice, at 0 if asleep in the second alone, else at 8.
        HandbagLady x = of("b095;l080;g00;");
        due(x.sleep(0, 2, 2, 3, 0), x.sleep(0, 2, 2, 3, 1), 4, 9);
        due(x.sleep(0, 0, 2, 3, 0), x.sleep(0, 0, 2, 3, 1), x.sleep(0, 8, 2, 3, 0), x.sleep(0, 8, 2, 3, 1), 2, 9, 1, 3);
        due(x.sleep(0, 0, 2, 4, 0), x.sleep(0, 0, 2, 4, 1), x.sleep(0, 5, 2, 4, 0), x.sleep(0, 5, 2, 4, 1), 3, 16, 0, 1);
        due(x.sleep(0, 0, 0, 2, 0), x.sleep(0, 0, 0, 2, 1), x.sleep(0, 1, 0, 2, 0), x.sleep(0, 1, 0, 2, 1), 1, 1, 0, 1);
        due(x.sleep(0, 2, 2, 20, 1), x.sleep(0, 2, 2, 20, 0), x.sleep(0, 1, 1, 20, 0), x.sleep(0, 8, 2, 20, 1), 400, 361, 19, 20);
        // Led to where she wants to be: asleep or not she is there behind 8 hours.
        HandbagLady same = of("b595;l050;g00;");
        due(same.sleep(0, 5, 8, 20, 1), same.sleep(0, 5, 8, 20, 0), 1, 1);
        HandbagLady awake = of("b050;l000;g00;");
        due(awake.sleep(0, 0, 8, 20, 0), awake.sleep(0, 0, 8, 20, 1), of(FREE).sleep(0, 4, 8, 2, 0), 1, 1, 1);
        // An old one's: 1 on for every hour asleep, 2 back in one awake: there behind 3 hours unless it sleeps last.
        HandbagLady old = of("b595;l005;g00;");
        due(old.sleep(0, 5, 3, 20, 0), old.sleep(0, 5, 3, 20, 1), 19, 20);
        // Led to 0 where she is, wanting 5: there behind 5 hours only if it sleeps in all of them.
        HandbagLady always = of("b090;l050;g00;");
        due(always.sleep(0, 5, 5, 20, 0), always.sleep(0, 5, 5, 20, 1), always.sleep(0, 5, 4, 20, 0), 1, 3200000, 0);
        long no = 4000000000000000000L;
        due(x.sleep(1, 0, -1, 1, 2), x.sleep(0, 10, -1, 1, 2), x.sleep(-1, 0, 0, 2, 0), x.sleep(0, -1, 0, 2, 0), no + 1, no + 1, no + 1, no + 1);
        due(x.sleep(0, 0, -1, 21, 2), x.sleep(0, 0, 9, 1, 2), x.sleep(0, 0, 9, 2, 2), x.sleep(0, 0, 8, 21, 2), no + 4, no + 4, no + 6, no + 6);
        due(x.sleep(0, 0, 8, 20, 2), x.sleep(0, 0, 8, 20, -1), no + 2, no + 2);
        refused(x, 4, 2, 0, 2, 2);
        // Resting she rests, the bag asleep or not; others are led as ever.
        due(of(TO_AND_FRO + "h09;").sleep(0, 1, 1, 2, 0), of(TO_AND_FRO + "h09;").sleep(0, 1, 1, 2, 1), 1, 1);
        due(of("b095;l080;g00;l900;").sleep(1, 0, 3, 2, 0), 1);
    }

    private static void swap() {
        begin(31);
        HandbagLady x = of("b050;b090;l200;l600;l900;g00;g11;");
        // Now both are led. 0 and 1: 9 above 2 is led, 5 above 6 is not. 0 and 2: only 1 is led. 1 and 2: only 0 is.
        due(x.swap(5), x.swap(0), x.bearerOf(0, 3), 1, -9, 0);
        x = of("b050;b090;l200;l000;l900;g00;g11;");
        due(x.swap(5), 2);
        x = of("b050;b090;l200;l000;l900;g00;g12;");
        due(x.swap(5), -9);
        // Held of these is 0 then, of others as it is now.
        x = of("b150;l700;l800;g00;h05;");
        due(x.swap(3), x.swap(4), 1, 1);
        x = of("b150;l700;l000;g00;h05;");
        due(x.swap(3), -9);
        due(x.swap(-1), x.swap(61), x.swap(60), -4, -6, -9);
        refused(x, 0, 0, 0, 1, 1);
        due(new HandbagLady().swap(60), -9);
    }

    private static void heirAndFar() {
        begin(32);
        HandbagLady x = of("b050;b220;b030;b440;l300;l700;l700;l900;g23;");
        due(x.heir(0), x.heir(1), 1, 1);
        x.gives(0, 1);
        due(x.heir(0), 2);
        due(told(x, "f32;"), x.heir(1), 1, 1);
        due(told(x, "b140;l900;g44;h02;"), x.heir(1), told(x, "h01;"), x.heir(1), 4, 1, 1, 4);
        due(x.heir(2), x.heir(-1), -2, -2);
        refused(x, 0, 2, 0, 0, 0);
        due(of("b000;l000;g00;").heir(0), new HandbagLady().heir(0), new HandbagLady().heir(1), -9, -9, -9);
        begin(33);
        HandbagLady y = of("l000;l005;l009;l004;");
        due(y.far(0, 1), y.far(0, 2), y.far(2, 0), y.far(2, 3), y.far(1, 3), y.far(1, 1), 5, 1, 1, 5, 1, 0);
        due(y.far(4, 0), y.far(0, 4), y.far(-1, 0), y.far(0, -1), -1, -1, -1, -1);
        refused(y, 4, 0, 0, 0, 0);
    }

    private static void tiredVisitsTogetherRests() {
        begin(34);
        HandbagLady x = of(LED + FREE);
        due(x.tired(0), x.tired(2), x.tired(60), x.tired(-1), x.tired(61), 18, 16, 15, -4, -6);
        refused(x, 0, 0, 0, 1, 1);
        begin(35);
        due(x.visits(0, 3, 60), x.visits(0, 3, 2), x.visits(0, 0, 60), x.visits(0, 2, 60), x.visits(1, 4, 10), 58, 0, 0, 1, 7);
        due(x.visits(2, 0, -1), x.visits(0, 10, 61), x.visits(0, -1, 0), x.visits(-1, 0, 0), x.visits(0, 0, -1), x.visits(0, 0, 61),
                -1, -1, -1, -1, -4, -6);
        refused(x, 4, 0, 0, 2, 2);
        begin(36);
        due(x.together(0, 1, 60), x.together(0, 1, 3), x.together(1, 0, 2), x.together(0, 1, 0), 3, 3, 2, 0);
        due(x.together(0, 0, -1), x.together(2, 0, -1), x.together(0, 2, 61), x.together(0, 1, -1), x.together(0, 1, 61),
                -1, -1, -1, -4, -6);
        refused(x, 7, 0, 0, 3, 3);
        begin(37);
        HandbagLady y = of(TO_AND_FRO);
        due(y.rests(0, 9), y.rests(0, 10), y.rests(0, 13), y.rests(0, 14), y.rests(0, 18), 0, 1, 1, 2, 3);
        due(y.rests(1, -1), y.rests(-1, 0), y.rests(0, -1), y.rests(0, 61), y.rests(0, 0), -1, -1, -4, -6, 0);
        refused(y, 2, 0, 0, 1, 1);
    }

    private static void firstSnapAndBusy() {
        begin(38);
        HandbagLady x = of(SNAPPED);
        due(x.firstSnap(), 2);
        x.put(0, 0);
        due(x.firstSnap(), 1);
        x.colonel(7);
        due(x.firstSnap(), new HandbagLady().firstSnap(), of("b000;l900;g00;").firstSnap(), -9, -9, -9);
        begin(39);
        HandbagLady y = of(LED + FREE);
        due(y.busy(0, 0), y.busy(0, 1), y.busy(3, 0), y.busy(3, 1), y.busy(5, 0), y.busy(5, 1), 0, 2, 0, 2, 3, 4);
        due(y.busy(-1, 2), y.busy(61, 2), y.busy(0, 2), y.busy(0, -1), -4, -6, -2, -2);
        refused(y, 0, 2, 0, 1, 1);
        due(new HandbagLady().busy(60, 0), new HandbagLady().busy(60, 1), 0, 0);
    }

    private static void tamedAndUnled() {
        begin(40);
        HandbagLady x = of("b050;b150;b250;b350;b450;b550;l300;l300;l600;l400;l500;g00;g11;g22;g33;g44;");
        due(x.tamed(0), x.tamed(1), x.tamed(2), x.tamed(3), x.tamed(4), x.tamed(5), 3, 3, 2, 9, 5, -9);
        due(told(x, "f40;h02;"), x.tamed(1), x.tamed(4), 2, 1, 3);
        due(told(x, "h02;"), x.tamed(1), 1, -9);
        due(x.gives(5, 1), x.tamed(5), x.tamed(1), 1, 1, -9);
        due(x.tamed(6), x.tamed(-1), x.bagOf(0, 1), -1, -1, 5);
        refused(x, 2, 0, 0, 0, 0);
        begin(41);
        due(of("b050;b030;b010;l400;l200;").unled(), of("b050;b030;l400;l200;").unled(), of("b050;b030;l500;l300;").unled(), 2, 1, 2);
        due(of("b200;b590;b190;l300;l800;").unled(), of("b440;b000;f01;l400;l000;g11;").unled(), 1, 2);
        due(of("b140;l400;g00;h09;").unled(), of("b390;b390;l400;l400;l900;").unled(), 1, 2);
        due(new HandbagLady().unled(), of(FREE).unled(), of("b000;").unled(), 0, 0, 0);
        due(of("b090;b010;b010;l000;l100;l900;").unled(), 2);
    }

    private static void gatheringBestHabitFarthest() {
        begin(42);
        due(of("l940;l949;l906;").gathering(), of("l440;l449;l446;").gathering(), of(FREE).gathering(), -9, 5, 0);
        due(of("b432;b337;b485;b411;l058;l026;l063;g20;g11;g32;f21;c9;").gathering(), 60);
        due(new HandbagLady().gathering(), of("l000;l005;").gathering(), of("l001;l001;").gathering(), 0, 5, 0);
        begin(43);
        HandbagLady x = of("b053;l090;g00;b000;");
        due(x.bestHabit(0, 4), x.bestHabit(0, 6), x.bestHabit(0, 0), x.bestHabit(0, 5), x.bestHabit(1, 0), 4, 6, 0, 5, -9);
        due(x.bestHabit(0, 1), x.bestHabit(0, 9), x.bagOf(0, 2), 1, 6, 3);
        due(of("b204;l000;g00;").bestHabit(0, 7), of(FREE + "b053;g00;").bestHabit(0, 7), -9, -9);
        due(x.bestHabit(2, 0), x.bestHabit(-1, 0), x.bestHabit(0, 10), x.bestHabit(0, -1), -1, -1, -1, -1);
        refused(x, 4, 0, 0, 0, 0);
        begin(44);
        HandbagLady y = of("l902;l953;l998;");
        due(y.farthest(0, 0), y.farthest(0, 1), y.farthest(60, 0), y.farthest(60, 1), 12, 5, 1, 5);
        due(y.farthest(-1, 2), y.farthest(61, 2), y.farthest(0, 2), y.farthest(0, -1), -4, -6, -2, -2);
        refused(y, 0, 2, 0, 1, 1);
        due(of(FREE).farthest(9, 0), of(FREE).farthest(9, 1), new HandbagLady().farthest(0, 0), -9, -9, -9);
        due(of("l000;l000;l000;").farthest(0, 0), of("l000;l000;l000;").farthest(0, 1), 1, 0);
    }

    private static void theRow() {
        begin(45);
        HandbagLady x = of(LED);
        due(x.row(-1), x.row(100), x.row(LEAST), x.row(GREATEST), -4, -6, -4, -6);
        due(x.row(0), x.row(99), x.count(8), 1, 2, 2);
        for (int k = 3; k <= 12; k++) {
            due(x.row(k), k);
        }
        due(x.row(0), x.row(-1), x.count(8), -6, -4, 12);
        refused(x, 0, 0, 0, 3, 3);
        begin(47);
        due(x.clear(), x.clear(), x.count(8), 12, 0, 0);
        begin(46);
        row(x, 0, 1, 2, 3, 3);
        due(x.judge(1), x.judge(-1), x.count(8), x.judge(0), x.count(8), -1, -1, 5, -9, 0);
        row(x, 0, 1, 2, 4, 3, 9);
        due(x.judge(0), x.count(8), x.judge(0), 3, 0, -9);
        row(x, 1);
        due(x.judge(0), x.bearerOf(0, 2), x.count(2), 0, 0, 0);
        row(x, 0, 1, 2, 3, 3, 3, 3, 3, 3, 3, 3, 99);
        due(x.judge(0), 11);
        refused(x, 2, 0, 0, 3, 3);
    }

    private static void lots() {
        begin(48);
        // Nobody's will or want matters when a bag with figure 9 leads in every hour to where she is.
        HandbagLady x = of("b090;l000;g00;");
        due(x.lots(1, 0, 0), x.lots(20, 12345, 0), x.lots(1, 0, 1), 24, 480, 0);
        // Seed 0: 12345, then -740551042: as wants 0 and (1406932606 / 65536 = 21468) 8.
        HandbagLady y = of("b200;b200;l905;l905;g00;g11;");
        due(y.lots(1, 0, 1), of("b200;b200;l905;l905;g00;g11;c8;").lots(1, 0, 1), 20, 23);
        // Two weeks of one bearer draw the same two numbers, each week from now.
        HandbagLady one = of("b200;l905;g00;");
        due(one.lots(1, 0, 1), one.lots(2, 0, 1), of("b200;l905;g00;c8;").lots(2, 0, 1), 20, 20, 23);
        due(one.bearerOf(0, 1), one.count(2), 0, 0);
        due(x.lots(0, 0, 2), x.lots(-1, 0, 2), x.lots(21, 0, 2), x.lots(20, LEAST, 2), x.lots(1, GREATEST, -1), -4, -4, -6, -2, -2);
        refused(x, 0, 2, 0, 2, 1);
        due(new HandbagLady().lots(20, -1, 0), 0);
    }

    private static void image() {
        begin(49);
        HandbagLady x = of("b153;b053;l090;l940;g00;f01;c3;h07;");
        due(x.restore(), x.image(), -3, 7);
        begin(50);
        x.feed('c');
        x.row(5);
        told(x, "f00;");
        x.feed('c');
        x.bag(0, 0, 0);
        x.bearer(0, 0, 0);
        x.gives(1, 0);
        x.wants(0, 0);
        x.put(0, 6);
        x.hours(9);
        x.colonel(8);
        due(x.bagOf(9, 0), x.restore(), x.count(2), x.count(3), x.count(0), x.count(1), x.count(7), x.count(8), x.count(9),
                -1, 7, 7, 3, 2, 2, 1, 1, 0);
        due(x.bagOf(0, 3), x.bagOf(0, 4), x.bagOf(0, 5), x.bagOf(1, 5), 1, 7, 0, -9);
        due(x.bearerOf(0, 1), x.bearerOf(0, 2), x.bearerOf(0, 3), x.bearerOf(0, 4), 9, 3, 0, 6);
        refused(x, 1, 0, 1, 0, 0);
        x.hours(5);
        due(x.restore(), x.count(2), x.hours(2), x.image(), x.hours(2), x.restore(), 7, 7, 0, 9, 0, 9);
        x.colonel(1);
        due(x.image(), x.count(9), 9, 1);
    }

    private static void count() {
        begin(51);
        HandbagLady x = of("b050;b090;b000;l400;l600;l000;g00;g12;c4;h03;");
        due(x.count(0), x.count(1), x.count(2), x.count(3), x.count(4), x.count(5), x.count(6), 3, 3, 3, 4, 2, 27, 2);
        due(x.count(7), x.count(8), x.count(9), x.count(10), x.count(17), x.count(-1), x.count(LEAST), x.count(GREATEST),
                0, 0, 0, -9, -9, -9, -9, -9);
        refused(x, 0, 0, 0, 0, 0);
        x.feed(1);
        x.row(1);
        x.colonel(1);
        due(x.count(7), x.count(8), x.count(9), 1, 1, 1);
        due(of(LED + "h03;" + FREE).count(5), 15);
    }

    private static void lastHour() {
        begin(13);
        HandbagLady x = of(LED);
        for (int k = 0; k < 16; k++) {
            x.hours(60);
        }
        due(x.count(2), x.hours(40), x.hours(39), x.count(2), x.hours(1), x.count(2), 960, -6, 0, 999, -6, 999);
        begin(15);
        due(x.behind(0, 60, 2), x.behind(0, 60, 0), 60, 3);
    }
}

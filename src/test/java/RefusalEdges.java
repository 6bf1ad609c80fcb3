/** Promise by promise: each refusal at its edge and far beyond it, the greatest and least that are taken, and the order of refusals. */
final class RefusalEdges extends Edges {
    private static final String TWO = "b053;b400;l090;l940;g00;";
    private static final String FULL = "b000;b000;b000;b000;b000;b000;l000;l000;l000;l000;l000;";
    private static final String FIVE = "b000;l000;l000;l000;l000;l000;";
    private static final String FOUR = "b000;l000;l000;l000;l000;";

    static void all() {
        newObject();
        feed();
        bequest();
        bagOf();
        bearerOf();
        bag();
        bearer();
        givesAndFriends();
        wantsPutColonel();
        hours();
        back();
        behind();
        meetAndCompany();
        breathlessAndSnaps();
        bestBagHersErrandDefy();
        given();
        quietAndStable();
        whoseAndNextTell();
        arm();
        sleep();
        swapHeirFarTired();
        visitsTogetherRests();
        busyTamedBestHabitFarthest();
        rowJudgeClear();
        lots();
        imageAndRestore();
        count();
    }

    private static void newObject() {
        String none = "`HandbagLady()`: No BAGS, no BEARERS, the COLONEL at 0.";
        edge(1, none, "no bags", () -> {
            HandbagLady x = new HandbagLady();
            due(x.count(0), x.count(4), 0, 0);
            refuses(x, -1, y -> y.bagOf(0, 0));
        });
        edge(1, none, "no bearers", () -> {
            HandbagLady x = new HandbagLady();
            due(x.count(1), x.count(5), x.count(6), 0, 0, 0);
            refuses(x, -1, y -> y.bearerOf(0, 0));
        });
        edge(1, none, "the colonel at 0", () -> due(new HandbagLady().colonel(5), 0));
        edge(1, none, "no letters, no row, nothing to take back, no refusals", () -> {
            HandbagLady x = new HandbagLady();
            for (int what = 7; what <= 16; what++) {
                due(x.count(what), what == 10 ? -9 : 0);
            }
        });
        edge(1, none, "of two objects each has its own", () -> {
            HandbagLady x = new HandbagLady();
            HandbagLady y = of(FULL + "c9;h09;");
            y.image();
            y.colonel(10);
            alike(x, new HandbagLady());
            due(x.count(11), y.count(11), x.restore(), 0, 1, -3);
        });
    }

    private static HandbagLady with96Letters() {
        HandbagLady x = new HandbagLady();
        for (int k = 1; k <= 96; k++) {
            due(x.feed(255), k);
        }
        return x;
    }

    private static void feed() {
        String feed = "A letter comes: how many there are. -4; -6 (255; 96, too).";
        edge(2, feed, "letters 0 and 255, and the first is 1", () -> {
            HandbagLady x = new HandbagLady();
            due(x.feed(0), x.feed(255), x.count(7), 1, 2, 2);
        });
        refused(2, feed, "-4: below 0", -4, TWO, x -> x.feed(-1), x -> x.feed(LEAST));
        refused(2, feed, "-6: above 255", -6, TWO, x -> x.feed(256), x -> x.feed(GREATEST));
        edge(2, feed, "-6: a 97th", () -> {
            refuses(with96Letters(), -6, x -> x.feed('c'));
            refuses(with96Letters(), -6, x -> x.feed(0));
        });
        edge(2, feed, "the order: -4 ahead of no room", () -> refuses(with96Letters(), -4, x -> x.feed(-1)));
        edge(2, feed, "behind a bequest there is room for 96 again", () -> {
            HandbagLady x = with96Letters();
            due(x.bequest(), x.feed('c'), x.count(7), -1000, 1, 1);
        });
    }

    private static void bequest() {
        String bequest = "The letters, which are no more then (with a FAULT neither), are a BEQUEST: how many STATEMENTS; the FAULT (nothing is counted).";
        edge(3, bequest, "the letters are no more then", () -> {
            HandbagLady x = new HandbagLady();
            due(told(x, "c3;"), x.count(7), told(x, "c4;"), x.count(3), 1, 0, 1, 4);
        });
        edge(3, bequest, "with a fault of kind 1 neither", () -> {
            HandbagLady x = new HandbagLady();
            due(told(x, "c3"), x.count(7), told(x, "c4;"), x.count(3), -1002, 0, 1, 4);
        });
        edge(3, bequest, "with a fault of kind 2 neither", () -> {
            HandbagLady x = new HandbagLady();
            due(told(x, "h00;"), x.count(7), told(x, "c4;"), x.count(3), -2000, 0, 1, 4);
        });
        edge(3, bequest, "how many statements: 1, and 32, the most", () -> due(told(new HandbagLady(), "c3;"), told(new HandbagLady(), "c3;".repeat(32)), 1, 32));
        edge(3, bequest, "a fault is not counted as a refusal", () -> {
            HandbagLady x = new HandbagLady();
            due(told(x, "h00;"), told(x, "x"), x.bequest(), -2000, -1000, -1000);
            for (int what = 11; what <= 16; what++) {
                due(x.count(what), 0);
            }
        });
    }

    private static void bagOf() {
        String of = "Of a BAG: KIND (what 0), FIGURE (1), HABIT (2), FRIEND (3; -9), HELD (4), who has it (5; -9), PULL (6). -1; -2.";
        edge(4, of, "no friend, nobody has it: -9", () -> none(of("b053;").bagOf(0, 3), of("b053;").bagOf(0, 5)));
        edge(4, of, "what 0 and what 6, of the first and of the last", () -> {
            HandbagLady x = of("b590;b000;b000;b000;b000;b299;");
            due(x.bagOf(0, 0), x.bagOf(0, 6), x.bagOf(5, 0), x.bagOf(5, 6), 5, 18, 2, 13);
        });
        refused(4, of, "-1: no such bag", -1, TWO, x -> x.bagOf(2, 0), x -> x.bagOf(-1, 0), x -> x.bagOf(5, 0), x -> x.bagOf(LEAST, 0), x -> x.bagOf(GREATEST, 0));
        refused(4, of, "-1: the one behind the last of six", -1, FULL, x -> x.bagOf(6, 0));
        refused(4, of, "-2: what", -2, TWO, x -> x.bagOf(0, -1), x -> x.bagOf(0, 7), x -> x.bagOf(1, LEAST), x -> x.bagOf(1, GREATEST));
        refused(4, of, "the order: -1 ahead of -2", -1, TWO, x -> x.bagOf(2, 7), x -> x.bagOf(-1, -1));
    }

    private static void bearerOf() {
        String of = "Of a BEARER: WILL (what 0), WANT (1), AT (2), BAG (3; -9), BREATH (4), 1 LED (5). -1; -2.";
        edge(5, of, "no bag: -9", () -> none(of(TWO).bearerOf(1, 3)));
        edge(5, of, "what 0 and what 5, of the first and of the last", () -> {
            HandbagLady x = of("b590;l900;l100;l100;l100;l100;g04;");
            due(x.bearerOf(0, 0), x.bearerOf(0, 5), x.bearerOf(4, 0), x.bearerOf(4, 5), 9, 0, 1, 1);
        });
        refused(5, of, "-1: no such bearer", -1, TWO, x -> x.bearerOf(2, 0), x -> x.bearerOf(-1, 0), x -> x.bearerOf(LEAST, 0), x -> x.bearerOf(GREATEST, 0));
        refused(5, of, "-1: the one behind the last of five", -1, FULL, x -> x.bearerOf(5, 0));
        refused(5, of, "-2: what", -2, TWO, x -> x.bearerOf(0, -1), x -> x.bearerOf(0, 6), x -> x.bearerOf(1, LEAST), x -> x.bearerOf(1, GREATEST));
        refused(5, of, "the order: -1 ahead of -2", -1, TWO, x -> x.bearerOf(2, 6), x -> x.bearerOf(-1, -1));
    }

    private static void bag() {
        String bag = "A BAG more: its number. -2; -4 either; -6 (9 either; 6 there are).";
        edge(6, bag, "the first is 0, the last 5", () -> {
            HandbagLady x = of("b000;b000;b000;b000;");
            due(new HandbagLady().bag(0, 0, 0), x.bag(5, 9, 9), x.bag(0, 0, 0), 0, 4, 5);
        });
        refused(6, bag, "-2: a kind", -2, TWO, x -> x.bag(-1, 0, 0), x -> x.bag(6, 0, 0), x -> x.bag(LEAST, 0, 0), x -> x.bag(GREATEST, 0, 0));
        refused(6, bag, "-4: its figure", -4, TWO, x -> x.bag(0, -1, 0), x -> x.bag(5, LEAST, 9));
        refused(6, bag, "-4: its habit", -4, TWO, x -> x.bag(0, 0, -1), x -> x.bag(5, 9, LEAST));
        refused(6, bag, "-6: its figure", -6, TWO, x -> x.bag(0, 10, 0), x -> x.bag(5, GREATEST, 9));
        refused(6, bag, "-6: its habit", -6, TWO, x -> x.bag(0, 0, 10), x -> x.bag(5, 9, GREATEST));
        refused(6, bag, "-6: 6 there are", -6, FULL, x -> x.bag(0, 0, 0), x -> x.bag(5, 9, 9));
        refused(6, bag, "the order: -2 ahead of -4 and -6", -2, FULL, x -> x.bag(6, -1, 0), x -> x.bag(-1, 0, 10), x -> x.bag(6, 0, 0));
        refused(6, bag, "the order: -4 of either ahead of -6", -4, FULL, x -> x.bag(0, 10, -1), x -> x.bag(0, -1, 10), x -> x.bag(0, -1, 0), x -> x.bag(0, 0, -1));
    }

    private static void bearer() {
        String bearer = "A BEARER more: her number. -4 any; -6 (9 any; 5 there are).";
        edge(7, bearer, "the first is 0, the last 4", () -> {
            HandbagLady x = of("l000;l000;l000;");
            due(new HandbagLady().bearer(0, 0, 0), x.bearer(9, 9, 9), x.bearer(0, 0, 0), 0, 3, 4);
        });
        refused(7, bearer, "-4: her will", -4, TWO, x -> x.bearer(-1, 0, 0), x -> x.bearer(LEAST, 9, 9));
        refused(7, bearer, "-4: her want", -4, TWO, x -> x.bearer(0, -1, 0), x -> x.bearer(9, LEAST, 9));
        refused(7, bearer, "-4: her place", -4, TWO, x -> x.bearer(0, 0, -1), x -> x.bearer(9, 9, LEAST));
        refused(7, bearer, "-6: her will", -6, TWO, x -> x.bearer(10, 0, 0), x -> x.bearer(GREATEST, 9, 9));
        refused(7, bearer, "-6: her want", -6, TWO, x -> x.bearer(0, 10, 0), x -> x.bearer(9, GREATEST, 9));
        refused(7, bearer, "-6: her place", -6, TWO, x -> x.bearer(0, 0, 10), x -> x.bearer(9, 9, GREATEST));
        refused(7, bearer, "-6: 5 there are", -6, FULL, x -> x.bearer(0, 0, 0), x -> x.bearer(9, 9, 9));
        refused(7, bearer, "the order: -4 of any ahead of -6", -4, FULL, x -> x.bearer(10, 0, -1), x -> x.bearer(0, -1, 10), x -> x.bearer(-1, 10, 0), x -> x.bearer(0, 0, -1));
    }

    private static void givesAndFriends() {
        String gives = "She is given it (as \"g\"): the BAG she had (-9). -1 either.";
        edge(8, gives, "she had none: -9", () -> none(of(TWO).gives(0, 1), of(TWO).gives(1, 1)));
        edge(8, gives, "she had bag 0, and the last of six", () -> {
            HandbagLady x = of(FULL);
            due(x.gives(0, 4), x.gives(5, 4), x.gives(0, 4), x.bagOf(0, 5), -9, 0, 5, 4);
        });
        refused(8, gives, "-1: no such bag", -1, TWO, x -> x.gives(2, 0), x -> x.gives(-1, 0), x -> x.gives(LEAST, 0), x -> x.gives(GREATEST, 0));
        refused(8, gives, "-1: no such bearer", -1, TWO, x -> x.gives(0, 2), x -> x.gives(0, -1), x -> x.gives(0, LEAST), x -> x.gives(0, GREATEST));
        refused(8, gives, "-1: of full ones those behind the last", -1, FULL, x -> x.gives(6, 0), x -> x.gives(0, 5), x -> x.gives(6, 5));
        String friends = "FRIENDS (as \"f\"): 1; the same: 0. -1 either.";
        edge(9, friends, "two: 1, the first and the last of six", () -> {
            HandbagLady x = of(FULL);
            due(x.friends(0, 5), x.bagOf(0, 3), x.bagOf(5, 3), 1, 5, 0);
        });
        edge(9, friends, "the same: 0, and it has none then", () -> {
            HandbagLady x = of("b000;b000;f01;");
            due(x.friends(0, 0), x.bagOf(0, 3), x.bagOf(1, 3), x.friends(1, 1), x.bagOf(1, 3), 0, -9, -9, 0, -9);
        });
        refused(9, friends, "-1: either", -1, TWO, x -> x.friends(2, 0), x -> x.friends(0, 2), x -> x.friends(-1, 0), x -> x.friends(0, -1),
                x -> x.friends(LEAST, 0), x -> x.friends(0, GREATEST));
        refused(9, friends, "-1: the same, if there is no such one", -1, TWO, x -> x.friends(2, 2), x -> x.friends(-1, -1));
    }

    private static void wantsPutColonel() {
        String wants = "WANT becomes v: what it was. -1 either.";
        edge(10, wants, "0 and 9, and as it is", () -> {
            HandbagLady x = of(TWO);
            due(x.wants(1, 9), x.wants(1, 0), x.wants(1, 0), x.bearerOf(1, 1), 4, 9, 0, 0);
        });
        refused(10, wants, "-1: no such bearer", -1, TWO, x -> x.wants(2, 0), x -> x.wants(-1, 0), x -> x.wants(GREATEST, 0));
        refused(10, wants, "-1: no such place", -1, TWO, x -> x.wants(0, 10), x -> x.wants(0, -1), x -> x.wants(0, LEAST));
        String put = "She is AT v: where she was. -1 either.";
        edge(11, put, "0 and 9, and as it is", () -> {
            HandbagLady x = of(TWO);
            due(x.put(1, 9), x.put(1, 0), x.put(1, 0), x.bearerOf(1, 2), 0, 9, 0, 0);
        });
        refused(11, put, "-1: no such bearer", -1, TWO, x -> x.put(2, 0), x -> x.put(-1, 0), x -> x.put(GREATEST, 0));
        refused(11, put, "-1: no such place", -1, TWO, x -> x.put(0, 10), x -> x.put(0, -1), x -> x.put(0, LEAST));
        String colonel = "The COLONEL stands at v: where he stood. -1.";
        edge(12, colonel, "0 and 9, and as it is", () -> {
            HandbagLady x = of(TWO + "c4;");
            due(x.colonel(9), x.colonel(0), x.colonel(0), x.count(3), 4, 9, 0, 0);
        });
        refused(12, colonel, "-1: no such place", -1, TWO, x -> x.colonel(10), x -> x.colonel(-1), x -> x.colonel(LEAST), x -> x.colonel(GREATEST));
    }

    private static HandbagLady atHour(int hour) {
        HandbagLady x = of(TWO);
        for (int left = hour; left > 0; left -= 60) {
            due(x.hours(Math.min(60, left)), 0);
        }
        return x;
    }

    private static void hours() {
        String hours = "n HOURS go by: SNAPS in these. -4 below 1; -6 (60; HOUR above 999).";
        edge(13, hours, "1 and 60, the least and the most", () -> {
            HandbagLady x = of("b200;l900;g00;");
            due(x.hours(1), x.count(2), x.hours(60), x.count(2), 1, 1, 60, 61);
        });
        edge(13, hours, "snaps in these, not in those before", () -> {
            HandbagLady x = of("b204;l902;g00;");
            due(x.hours(1), x.hours(4), x.hours(2), 0, 4, 2);
        });
        refused(13, hours, "-4: below 1", -4, TWO, x -> x.hours(0), x -> x.hours(-1), x -> x.hours(LEAST));
        refused(13, hours, "-6: above 60", -6, TWO, x -> x.hours(61), x -> x.hours(GREATEST));
        edge(13, hours, "hour 999 is reached", () -> {
            HandbagLady x = atHour(960);
            due(x.hours(39), x.count(2), 0, 999);
            HandbagLady y = atHour(939);
            due(y.hours(60), y.count(2), 0, 999);
        });
        edge(13, hours, "-6: hour above 999", () -> {
            refuses(atHour(960), -6, x -> x.hours(40));
            refuses(atHour(940), -6, x -> x.hours(60));
            refuses(atHour(999), -6, x -> x.hours(1));
        });
        edge(13, hours, "the order: -4 at hour 999, too", () -> refuses(atHour(999), -4, x -> x.hours(0)));
    }

    private static void back() {
        String back = "TAKEN BACK: how many can still be. -3 none.";
        edge(14, back, "the last one: 0 can still be", () -> {
            HandbagLady x = new HandbagLady();
            due(x.colonel(3), x.colonel(4), x.back(), x.back(), x.count(3), 0, 3, 1, 0, 0);
        });
        edge(14, back, "-3: nothing was changed", () -> {
            refuses(new HandbagLady(), -3, HandbagLady::back);
            refuses(of(TWO), -3, HandbagLady::back);
        });
        edge(14, back, "-3: all has been taken back", () -> {
            HandbagLady x = of(TWO);
            due(x.colonel(3), x.back(), 0, 0);
            refuses(x, -3, HandbagLady::back);
        });
    }

    private static void behind() {
        String behind = "n HOURS on: AT (what 0), BREATH (1), HOURS LED (2), PULL (3; -9). -1; -4; -6 60; -2.";
        edge(15, behind, "0 and 60 hours, what 0 and 3", () -> {
            HandbagLady x = of(TWO);
            due(x.behind(0, 0, 0), x.behind(0, 60, 0), x.behind(0, 0, 3), x.behind(0, 60, 3), 0, 3, 5, 5);
        });
        edge(15, behind, "no bag: -9", () -> none(of(TWO).behind(1, 0, 3), of(TWO).behind(1, 60, 3)));
        refused(15, behind, "-1", -1, TWO, x -> x.behind(2, 0, 0), x -> x.behind(-1, 0, 0), x -> x.behind(LEAST, 0, 0), x -> x.behind(GREATEST, 0, 0));
        refused(15, behind, "-4: below 0", -4, TWO, x -> x.behind(0, -1, 0), x -> x.behind(0, LEAST, 0));
        refused(15, behind, "-6: above 60", -6, TWO, x -> x.behind(0, 61, 0), x -> x.behind(0, GREATEST, 0));
        refused(15, behind, "-2: what", -2, TWO, x -> x.behind(0, 0, -1), x -> x.behind(0, 60, 4), x -> x.behind(0, 0, LEAST), x -> x.behind(1, 0, GREATEST));
        refused(15, behind, "the order: -1 first", -1, TWO, x -> x.behind(2, -1, 4), x -> x.behind(2, 61, 4), x -> x.behind(2, 0, 4));
        refused(15, behind, "the order: -4 ahead of -2", -4, TWO, x -> x.behind(0, -1, 4));
        refused(15, behind, "the order: -6 ahead of -2", -6, TWO, x -> x.behind(0, 61, 4));
    }

    private static void meetAndCompany() {
        String meet = "MEET; -9. -1 either (one twice).";
        edge(16, meet, "never: -9", () -> none(of("l900;l911;").meet(0, 1)));
        refused(16, meet, "-1: either", -1, TWO, x -> x.meet(2, 0), x -> x.meet(0, 2), x -> x.meet(-1, 0), x -> x.meet(0, -1), x -> x.meet(LEAST, 1), x -> x.meet(1, GREATEST));
        refused(16, meet, "-1: one twice", -1, TWO, x -> x.meet(0, 0), x -> x.meet(1, 1), x -> x.meet(2, 2));
        edge(16, meet, "a refusal is not the -9 of nobody met", () -> {
            HandbagLady x = of("l900;l911;");
            due(x.meet(0, 1), x.count(11), -9, 0);
        });
        String company = "COMPANY: how many (what 0), that PLACE (1). -4; -6 60; -2.";
        edge(17, company, "0 and 60 hours, what 0 and 1", () -> {
            HandbagLady x = of(TWO);
            due(x.company(0, 0), x.company(0, 1), x.company(60, 0), x.company(60, 1), 2, 0, 1, 3);
        });
        refused(17, company, "-4: below 0", -4, TWO, x -> x.company(-1, 0), x -> x.company(LEAST, 1));
        refused(17, company, "-6: above 60", -6, TWO, x -> x.company(61, 0), x -> x.company(GREATEST, 1));
        refused(17, company, "-2: what", -2, TWO, x -> x.company(0, -1), x -> x.company(60, 2), x -> x.company(0, LEAST), x -> x.company(0, GREATEST));
        refused(17, company, "the order: -4 ahead of -2", -4, TWO, x -> x.company(-1, 2));
        refused(17, company, "the order: -6 ahead of -2", -6, TWO, x -> x.company(61, 2));
    }

    private static void breathlessAndSnaps() {
        String breathless = "BREATHLESS; who first (bearer -1); -9. -1 below -1, too.";
        edge(18, breathless, "bearer -1 is no refusal: who first", () -> {
            HandbagLady x = of("l900;b390;l050;g01;");
            due(x.breathless(-1), x.count(11), 1, 0);
        });
        edge(18, breathless, "never: -9, of one and of all", () -> none(of(TWO).breathless(0), of(TWO).breathless(-1), new HandbagLady().breathless(-1)));
        refused(18, breathless, "-1: below -1", -1, TWO, x -> x.breathless(-2), x -> x.breathless(LEAST));
        refused(18, breathless, "-1: no such bearer", -1, TWO, x -> x.breathless(2), x -> x.breathless(GREATEST));
        refused(18, breathless, "-1: bearer 0 of none", -1, "", x -> x.breathless(0));
        String snaps = "SNAPS (what 0), WHERE COLONEL (1), LEAST LED (2; -9). -4; -6 60; -2.";
        edge(19, snaps, "0 and 60 hours, what 0 to 2", () -> {
            HandbagLady x = of("b200;l900;g00;");
            due(x.snaps(0, 0), x.snaps(60, 0), x.snaps(0, 1), x.snaps(60, 1), x.snaps(0, 2), x.snaps(60, 2), 0, 60, 0, 1, 0, 0);
        });
        edge(19, snaps, "the least led of nobody: -9", () -> none(new HandbagLady().snaps(0, 2)));
        refused(19, snaps, "-4: below 0", -4, TWO, x -> x.snaps(-1, 0), x -> x.snaps(-1, 1), x -> x.snaps(LEAST, 2));
        refused(19, snaps, "-6: above 60", -6, TWO, x -> x.snaps(61, 0), x -> x.snaps(61, 1), x -> x.snaps(GREATEST, 2));
        refused(19, snaps, "-2: what", -2, TWO, x -> x.snaps(0, -1), x -> x.snaps(60, 3), x -> x.snaps(0, LEAST), x -> x.snaps(0, GREATEST));
        refused(19, snaps, "the order: -4 ahead of -2", -4, TWO, x -> x.snaps(-1, 3));
        refused(19, snaps, "the order: -6 ahead of -2", -6, TWO, x -> x.snaps(61, 3));
    }

    private static void bestBagHersErrandDefy() {
        String best = "BEST BAG (what 0; -9), when (1; -9). -1 either; -2.";
        edge(20, best, "places 0 and 9, what 0 and 1", () -> {
            HandbagLady x = of("b000;b099;l090;");
            due(x.bestBag(0, 0, 0), x.bestBag(0, 0, 1), x.bestBag(0, 9, 0), x.bestBag(0, 9, 1), 0, 0, 0, 1);
        });
        edge(20, best, "never: -9, both", () -> none(of("b099;l090;").bestBag(0, 5, 0), of("b099;l090;").bestBag(0, 5, 1)));
        refused(20, best, "-1: no such bearer", -1, TWO, x -> x.bestBag(2, 0, 0), x -> x.bestBag(-1, 0, 1), x -> x.bestBag(GREATEST, 0, 0));
        refused(20, best, "-1: no such place", -1, TWO, x -> x.bestBag(0, 10, 0), x -> x.bestBag(0, -1, 1), x -> x.bestBag(0, LEAST, 0));
        refused(20, best, "-2: what", -2, TWO, x -> x.bestBag(0, 0, -1), x -> x.bestBag(0, 9, 2), x -> x.bestBag(1, 0, LEAST), x -> x.bestBag(1, 0, GREATEST));
        refused(20, best, "the order: -1 ahead of -2", -1, TWO, x -> x.bestBag(2, 0, 2), x -> x.bestBag(0, 10, -1));
        String hers = "HERS; -9. -1.";
        edge(21, hers, "never: -9", () -> none(of(TWO).hers(1)));
        refused(21, hers, "-1", -1, TWO, x -> x.hers(2), x -> x.hers(-1), x -> x.hers(LEAST), x -> x.hers(GREATEST));
        String errand = "ERRAND; -9. -1 either.";
        edge(22, errand, "places 0 and 9", () -> due(of(TWO).errand(1, 0), of(TWO).errand(1, 9), 0, 1));
        edge(22, errand, "never: -9", () -> none(of(TWO).errand(0, 9)));
        refused(22, errand, "-1: no such bearer", -1, TWO, x -> x.errand(2, 0), x -> x.errand(-1, 0), x -> x.errand(GREATEST, 0));
        refused(22, errand, "-1: no such place", -1, TWO, x -> x.errand(0, 10), x -> x.errand(0, -1), x -> x.errand(0, LEAST));
        String defy = "DEFY; -9. -1 either; -4; -6 60.";
        edge(23, defy, "places 0 and 9, 0 and 60 hours", () -> due(of(TWO).defy(1, 0, 0), of(TWO).defy(1, 9, 60), of(TWO).defy(0, 9, 60), 0, 0, 5));
        edge(23, defy, "never: -9", () -> none(of("b590;l000;g00;").defy(0, 5, 60), of(TWO).defy(1, 1, 0)));
        refused(23, defy, "-1: no such bearer", -1, TWO, x -> x.defy(2, 0, 0), x -> x.defy(-1, 0, 0), x -> x.defy(GREATEST, 0, 0));
        refused(23, defy, "-1: no such place", -1, TWO, x -> x.defy(0, 10, 0), x -> x.defy(0, -1, 0), x -> x.defy(0, LEAST, 0));
        refused(23, defy, "-4: below 0", -4, TWO, x -> x.defy(0, 0, -1), x -> x.defy(0, 0, LEAST));
        refused(23, defy, "-6: above 60", -6, TWO, x -> x.defy(0, 0, 61), x -> x.defy(0, 0, GREATEST));
        refused(23, defy, "the order: -1 first", -1, TWO, x -> x.defy(2, 0, -1), x -> x.defy(0, 10, 61), x -> x.defy(0, -1, -1));
    }

    private static void given() {
        String given = "GIVEN so that two MEET: when (i -1; -9), the i-th one's BAG (-9). -1 (the two; one twice); -4 below -1; -3 more than 4 BEARERS.";
        edge(24, given, "never: when is -9", () -> none(of("b000;b000;l000;l011;").given(0, 1, -1)));
        edge(24, given, "she has none: -9", () -> none(of("b000;l000;l000;").given(0, 1, 1)));
        edge(24, given, "4 bearers are not too many", () -> due(of(FOUR).given(0, 3, -1), of(FOUR).given(0, 3, 0), of(FOUR).given(3, 0, 3), 0, 0, -9));
        refused(24, given, "-1: the two", -1, TWO, x -> x.given(2, 0, 0), x -> x.given(0, 2, 0), x -> x.given(-1, 0, -1), x -> x.given(0, -1, -1),
                x -> x.given(LEAST, 0, 0), x -> x.given(0, GREATEST, 0));
        refused(24, given, "-1: one twice", -1, TWO, x -> x.given(0, 0, 0), x -> x.given(1, 1, -1));
        refused(24, given, "-4: i below -1", -4, TWO, x -> x.given(0, 1, -2), x -> x.given(0, 1, LEAST));
        refused(24, given, "-3: 5 bearers", -3, FIVE, x -> x.given(0, 1, -1), x -> x.given(3, 4, 0), x -> x.given(0, 1, GREATEST));
        refused(24, given, "the order: -1 ahead of -4 and -3", -1, FIVE, x -> x.given(0, 5, -2), x -> x.given(2, 2, 0), x -> x.given(4, 4, -2));
        refused(24, given, "the order: -4 ahead of -3", -4, FIVE, x -> x.given(0, 1, -2));
    }

    private static void quietAndStable() {
        String quiet = "QUIET: HOURS (i -1), the i-th one's BAG (-9). -4 (i below -1, n below 0); -6 60; -3 more than 4 BEARERS.";
        edge(25, quiet, "she has none: -9", () -> none(of("b000;l000;l000;").quiet(60, 1), of("l000;").quiet(0, 0)));
        edge(25, quiet, "4 bearers are not too many", () -> due(of(FOUR).quiet(60, -1), of(FOUR).quiet(60, 0), of(FOUR).quiet(0, 3), 0, 0, -9));
        refused(25, quiet, "-4: i below -1", -4, TWO, x -> x.quiet(0, -2), x -> x.quiet(60, LEAST));
        refused(25, quiet, "-4: n below 0", -4, TWO, x -> x.quiet(-1, -1), x -> x.quiet(LEAST, 0));
        refused(25, quiet, "-6: n above 60", -6, TWO, x -> x.quiet(61, -1), x -> x.quiet(GREATEST, 0));
        refused(25, quiet, "-3: 5 bearers", -3, FIVE, x -> x.quiet(0, -1), x -> x.quiet(60, 0));
        refused(25, quiet, "the order: -4 of i ahead of -6 and -3", -4, FIVE, x -> x.quiet(61, -2), x -> x.quiet(0, -2));
        refused(25, quiet, "the order: -4 of n ahead of -3", -4, FIVE, x -> x.quiet(-1, 0));
        refused(25, quiet, "the order: -6 ahead of -3", -6, FIVE, x -> x.quiet(61, 0));
        String stable = "STABLE: the i-th one's BAG; -9. -1.";
        edge(26, stable, "she has none: -9", () -> none(of("b000;l000;l000;").stable(1), of("l000;").stable(0)));
        edge(26, stable, "5 bearers and 6 bags are not too many", () -> due(of(FULL).stable(0), of(FULL).stable(4), 0, 4));
        refused(26, stable, "-1", -1, TWO, x -> x.stable(2), x -> x.stable(-1), x -> x.stable(LEAST), x -> x.stable(GREATEST));
    }

    private static void whoseAndNextTell() {
        String whose = "WHOSE by the ROW (it stays): KINDS (what 0), FIGURES (1), HABITS (2), WILLS (3), bits. -1; -2.";
        edge(27, whose, "what 0 and 3", () -> due(of(TWO).whose(0, 0), of(TWO).whose(0, 3), of(TWO).whose(1, 0), of(TWO).whose(1, 3), 63, 1023, 0, 0));
        refused(27, whose, "-1", -1, TWO, x -> x.whose(2, 0), x -> x.whose(-1, 0), x -> x.whose(LEAST, 0), x -> x.whose(GREATEST, 0));
        refused(27, whose, "-2: what", -2, TWO, x -> x.whose(0, -1), x -> x.whose(0, 4), x -> x.whose(0, LEAST), x -> x.whose(0, GREATEST));
        refused(27, whose, "-2: what, without a bag, too", -2, TWO, x -> x.whose(1, -1), x -> x.whose(1, 4));
        refused(27, whose, "the order: -1 ahead of -2", -1, TWO, x -> x.whose(2, 4), x -> x.whose(-1, -1));
        String tell = "NEXT TELL: the PLACE (what 0), how many (1; without a BAG 0, 1). -1; -4; -6 60; -2.";
        edge(28, tell, "0 and 60 hours", () -> due(of(TWO).nextTell(0, 0, 0), of(TWO).nextTell(0, 0, 1), of("b003;l900;g00;").nextTell(0, 60, 1), 0, 1, 2));
        refused(28, tell, "-1", -1, TWO, x -> x.nextTell(2, 0, 0), x -> x.nextTell(-1, 0, 0), x -> x.nextTell(LEAST, 0, 0), x -> x.nextTell(GREATEST, 0, 0));
        refused(28, tell, "-4: below 0", -4, TWO, x -> x.nextTell(0, -1, 0), x -> x.nextTell(0, LEAST, 1));
        refused(28, tell, "-6: above 60", -6, TWO, x -> x.nextTell(0, 61, 0), x -> x.nextTell(0, GREATEST, 1));
        refused(28, tell, "-2: what", -2, TWO, x -> x.nextTell(0, 0, -1), x -> x.nextTell(0, 60, 2), x -> x.nextTell(0, 0, LEAST), x -> x.nextTell(0, 0, GREATEST));
        refused(28, tell, "-4, -6 and -2 without a bag, too: -2", -2, TWO, x -> x.nextTell(1, 0, 2), x -> x.nextTell(1, 0, -1));
        refused(28, tell, "-4, -6 and -2 without a bag, too: -4", -4, TWO, x -> x.nextTell(1, -1, 0));
        refused(28, tell, "-4, -6 and -2 without a bag, too: -6", -6, TWO, x -> x.nextTell(1, 61, 0));
        refused(28, tell, "the order: -1 first", -1, TWO, x -> x.nextTell(2, -1, 2), x -> x.nextTell(2, 61, 2), x -> x.nextTell(2, 0, 2));
        refused(28, tell, "the order: -4 ahead of -2", -4, TWO, x -> x.nextTell(0, -1, 2));
        refused(28, tell, "the order: -6 ahead of -2", -6, TWO, x -> x.nextTell(0, 61, 2));
    }

    private static void arm() {
        String arm = "ARM IN ARM. -1 either (one twice); -4; -6 60.";
        edge(29, arm, "0 and 60 hours", () -> due(of(TWO).arm(0, 1, 0), of(TWO).arm(1, 0, 60), 0, 3));
        refused(29, arm, "-1: either", -1, TWO, x -> x.arm(2, 0, 0), x -> x.arm(0, 2, 0), x -> x.arm(-1, 0, 0), x -> x.arm(0, -1, 0),
                x -> x.arm(LEAST, 0, 0), x -> x.arm(0, GREATEST, 0));
        refused(29, arm, "-1: one twice", -1, TWO, x -> x.arm(0, 0, 0), x -> x.arm(1, 1, 60));
        refused(29, arm, "-4: below 0", -4, TWO, x -> x.arm(0, 1, -1), x -> x.arm(1, 0, LEAST));
        refused(29, arm, "-6: above 60", -6, TWO, x -> x.arm(0, 1, 61), x -> x.arm(1, 0, GREATEST));
        refused(29, arm, "the order: -1 first", -1, TWO, x -> x.arm(0, 0, -1), x -> x.arm(0, 2, 61), x -> x.arm(2, 0, -1));
    }

    private static void sleep() {
        String sleep = "SLEEP; part 0 above, 1 below the line. Refused as told: -1 either; -4 (n below 0, t below 2); -6 (8; 20); -2.";
        edge(30, sleep, "places 0 and 9, 0 and 8 hours, odds 1 in 2 and in 20, part 0 and 1", () -> {
            HandbagLady x = of("b009;l990;l900;g00;");
            due(x.sleep(0, 0, 0, 2, 0), x.sleep(0, 0, 0, 20, 1), x.sleep(0, 9, 8, 2, 0), x.sleep(0, 9, 8, 20, 1), 1, 1, 1, 1);
        });
        refused(30, sleep, "-1: no such bearer", -1, TWO, x -> x.sleep(2, 0, 0, 2, 0), x -> x.sleep(-1, 0, 0, 2, 0), x -> x.sleep(GREATEST, 0, 0, 2, 0));
        refused(30, sleep, "-1: no such place", -1, TWO, x -> x.sleep(0, 10, 0, 2, 0), x -> x.sleep(0, -1, 0, 2, 1), x -> x.sleep(0, LEAST, 0, 2, 0));
        refused(30, sleep, "-4: n below 0", -4, TWO, x -> x.sleep(0, 0, -1, 2, 0), x -> x.sleep(0, 0, LEAST, 20, 1));
        refused(30, sleep, "-4: t below 2", -4, TWO, x -> x.sleep(0, 0, 0, 1, 0), x -> x.sleep(0, 0, 8, 0, 1), x -> x.sleep(0, 0, 8, LEAST, 1));
        refused(30, sleep, "-6: n above 8", -6, TWO, x -> x.sleep(0, 0, 9, 2, 0), x -> x.sleep(0, 0, GREATEST, 20, 1));
        refused(30, sleep, "-6: t above 20", -6, TWO, x -> x.sleep(0, 0, 0, 21, 0), x -> x.sleep(0, 0, 8, GREATEST, 1));
        refused(30, sleep, "-2: part", -2, TWO, x -> x.sleep(0, 0, 0, 2, -1), x -> x.sleep(0, 0, 8, 20, 2), x -> x.sleep(0, 0, 0, 2, LEAST), x -> x.sleep(0, 0, 0, 2, GREATEST));
        refused(30, sleep, "the order: -1 first", -1, TWO, x -> x.sleep(2, 0, -1, 1, 2), x -> x.sleep(0, 10, 9, 21, 2));
        refused(30, sleep, "the order: -4 of either ahead of -6", -4, TWO, x -> x.sleep(0, 0, -1, 21, 2), x -> x.sleep(0, 0, 9, 1, 2));
        refused(30, sleep, "the order: -6 ahead of -2", -6, TWO, x -> x.sleep(0, 0, 9, 2, 2), x -> x.sleep(0, 0, 0, 21, 2));
    }

    private static void swapHeirFarTired() {
        String swap = "SWAP; -9. -4; -6 60.";
        edge(31, swap, "0 and 60 hours; none: -9", () -> none(of(TWO).swap(0), of("b000;l000;l000;g00;").swap(60)));
        refused(31, swap, "-4: below 0", -4, TWO, x -> x.swap(-1), x -> x.swap(LEAST));
        refused(31, swap, "-6: above 60", -6, TWO, x -> x.swap(61), x -> x.swap(GREATEST));
        String heir = "HEIR (what 0; -9), STRONGEST (1; -9). -2.";
        edge(32, heir, "none: -9, both", () -> none(new HandbagLady().heir(0), new HandbagLady().heir(1)));
        refused(32, heir, "-2: what", -2, TWO, x -> x.heir(-1), x -> x.heir(2), x -> x.heir(LEAST), x -> x.heir(GREATEST));
        String far = "FAR. -1 either.";
        refused(33, far, "-1: either", -1, TWO, x -> x.far(2, 0), x -> x.far(0, 2), x -> x.far(-1, 0), x -> x.far(0, -1), x -> x.far(LEAST, 0), x -> x.far(0, GREATEST));
        refused(33, far, "-1: of full ones the one behind the last", -1, FULL, x -> x.far(5, 0), x -> x.far(0, 5));
        String tired = "TIRED. -4; -6 60.";
        edge(34, tired, "0 and 60 hours", () -> due(of(TWO).tired(0), of(TWO).tired(60), 18, 15));
        refused(34, tired, "-4: below 0", -4, TWO, x -> x.tired(-1), x -> x.tired(LEAST));
        refused(34, tired, "-6: above 60", -6, TWO, x -> x.tired(61), x -> x.tired(GREATEST));
    }

    private static void visitsTogetherRests() {
        String visits = "VISITS. -1 either; -4; -6 60.";
        edge(35, visits, "places 0 and 9, 0 and 60 hours", () -> due(of("l900;").visits(0, 0, 0), of("l900;").visits(0, 0, 60), of("l999;").visits(0, 9, 60), 0, 60, 60));
        refused(35, visits, "-1: no such bearer", -1, TWO, x -> x.visits(2, 0, 0), x -> x.visits(-1, 0, 0), x -> x.visits(GREATEST, 0, 0));
        refused(35, visits, "-1: no such place", -1, TWO, x -> x.visits(0, 10, 0), x -> x.visits(0, -1, 0), x -> x.visits(0, LEAST, 0));
        refused(35, visits, "-4: below 0", -4, TWO, x -> x.visits(0, 0, -1), x -> x.visits(0, 0, LEAST));
        refused(35, visits, "-6: above 60", -6, TWO, x -> x.visits(0, 0, 61), x -> x.visits(0, 0, GREATEST));
        refused(35, visits, "the order: -1 first", -1, TWO, x -> x.visits(2, 0, -1), x -> x.visits(0, 10, 61));
        String together = "TOGETHER. -1 either (one twice); -4; -6 60.";
        edge(36, together, "0 and 60 hours", () -> due(of("l900;l900;").together(0, 1, 0), of("l900;l900;").together(1, 0, 60), 0, 60));
        refused(36, together, "-1: either", -1, TWO, x -> x.together(2, 0, 0), x -> x.together(0, 2, 0), x -> x.together(-1, 0, 0), x -> x.together(0, -1, 0),
                x -> x.together(LEAST, 0, 0), x -> x.together(0, GREATEST, 0));
        refused(36, together, "-1: one twice", -1, TWO, x -> x.together(0, 0, 0), x -> x.together(1, 1, 60));
        refused(36, together, "-4: below 0", -4, TWO, x -> x.together(0, 1, -1), x -> x.together(0, 1, LEAST));
        refused(36, together, "-6: above 60", -6, TWO, x -> x.together(0, 1, 61), x -> x.together(0, 1, GREATEST));
        refused(36, together, "the order: -1 first", -1, TWO, x -> x.together(0, 0, -1), x -> x.together(2, 0, 61), x -> x.together(0, 2, -1));
        String rests = "RESTS. -1; -4; -6 60.";
        edge(37, rests, "0 and 60 hours", () -> due(of(TWO).rests(0, 0), of(TWO).rests(1, 60), 0, 0));
        refused(37, rests, "-1", -1, TWO, x -> x.rests(2, 0), x -> x.rests(-1, 0), x -> x.rests(LEAST, 0), x -> x.rests(GREATEST, 0));
        refused(37, rests, "-4: below 0", -4, TWO, x -> x.rests(0, -1), x -> x.rests(0, LEAST));
        refused(37, rests, "-6: above 60", -6, TWO, x -> x.rests(0, 61), x -> x.rests(0, GREATEST));
        refused(37, rests, "the order: -1 first", -1, TWO, x -> x.rests(2, -1), x -> x.rests(2, 61));
    }

    private static void busyTamedBestHabitFarthest() {
        edge(38, "FIRST SNAP; -9.", "none: -9", () -> none(of(TWO).firstSnap(), new HandbagLady().firstSnap()));
        String busy = "BUSY: the PLACE (what 0), how often (1). -4; -6 60; -2.";
        edge(39, busy, "0 and 60 hours, what 0 and 1", () -> {
            HandbagLady x = of(TWO);
            due(x.busy(0, 0), x.busy(0, 1), x.busy(60, 0), x.busy(60, 1), 0, 2, 3, 59);
        });
        refused(39, busy, "-4: below 0", -4, TWO, x -> x.busy(-1, 0), x -> x.busy(LEAST, 1));
        refused(39, busy, "-6: above 60", -6, TWO, x -> x.busy(61, 0), x -> x.busy(GREATEST, 1));
        refused(39, busy, "-2: what", -2, TWO, x -> x.busy(0, -1), x -> x.busy(60, 2), x -> x.busy(0, LEAST), x -> x.busy(0, GREATEST));
        refused(39, busy, "the order: -4 ahead of -2", -4, TWO, x -> x.busy(-1, 2));
        refused(39, busy, "the order: -6 ahead of -2", -6, TWO, x -> x.busy(61, 2));
        edge(40, "TAMED; -9. -1.", "nobody has it: -9", () -> none(of(TWO).tamed(1)));
        refused(40, "TAMED; -9. -1.", "-1", -1, TWO, x -> x.tamed(2), x -> x.tamed(-1), x -> x.tamed(LEAST), x -> x.tamed(GREATEST));
        edge(41, "`int unled()`: UNLED.", "of nothing 0, of all 5", () -> due(new HandbagLady().unled(), of(FULL).unled(), 0, 5));
        edge(42, "GATHERING; -9.", "never: -9", () -> none(of("l900;l911;").gathering()));
        String habit = "BEST HABIT; -9. -1 either.";
        edge(43, habit, "places 0 and 9", () -> due(of("b093;l055;g00;").bestHabit(0, 0), of("b093;l054;g00;").bestHabit(0, 9), 0, 9));
        edge(43, habit, "nobody has it: -9", () -> none(of(TWO).bestHabit(1, 0)));
        refused(43, habit, "-1: no such bag", -1, TWO, x -> x.bestHabit(2, 0), x -> x.bestHabit(-1, 0), x -> x.bestHabit(GREATEST, 0));
        refused(43, habit, "-1: no such place", -1, TWO, x -> x.bestHabit(0, 10), x -> x.bestHabit(0, -1), x -> x.bestHabit(0, LEAST));
        refused(43, habit, "-1: no such place for a bag that nobody has, too", -1, TWO, x -> x.bestHabit(1, 10), x -> x.bestHabit(1, -1));
        String far = "FARTHEST: the two (what 0; -9), how far (1; -9). -4; -6 60; -2.";
        edge(44, far, "0 and 60 hours, what 0 and 1", () -> {
            HandbagLady x = of(TWO);
            due(x.farthest(0, 0), x.farthest(0, 1), x.farthest(60, 0), x.farthest(60, 1), 1, 0, 1, 1);
        });
        edge(44, far, "fewer than two: -9, both", () -> none(of("l900;").farthest(0, 0), of("l900;").farthest(0, 1)));
        refused(44, far, "-4: below 0", -4, TWO, x -> x.farthest(-1, 0), x -> x.farthest(LEAST, 1));
        refused(44, far, "-6: above 60", -6, TWO, x -> x.farthest(61, 0), x -> x.farthest(GREATEST, 1));
        refused(44, far, "-2: what", -2, TWO, x -> x.farthest(0, -1), x -> x.farthest(60, 2), x -> x.farthest(0, LEAST), x -> x.farthest(0, GREATEST));
        refused(44, far, "-2: what, of fewer than two, too", -2, "", x -> x.farthest(0, 2), x -> x.farthest(0, -1));
        refused(44, far, "the order: -4 ahead of -2", -4, TWO, x -> x.farthest(-1, 2));
        refused(44, far, "the order: -6 ahead of -2", -6, TWO, x -> x.farthest(61, 2));
    }

    private static HandbagLady withFullRow() {
        return withRow("l900;", 0, 0, 0, 0, 0, 0, 0, 0, 0, 0, 0, 0);
    }

    private static void rowJudgeClear() {
        String row = "A number more of the ROW: how many. -4; -6 (99; 12, too).";
        edge(45, row, "0 and 99, and the first is 1", () -> {
            HandbagLady x = new HandbagLady();
            due(x.row(0), x.row(99), x.count(8), 1, 2, 2);
        });
        refused(45, row, "-4: below 0", -4, TWO, x -> x.row(-1), x -> x.row(LEAST));
        refused(45, row, "-6: above 99", -6, TWO, x -> x.row(100), x -> x.row(GREATEST));
        edge(45, row, "-6: a thirteenth", () -> {
            due(withFullRow().count(8), 12);
            refuses(withFullRow(), -6, x -> x.row(0));
            refuses(withFullRow(), -6, x -> x.row(99));
        });
        edge(45, row, "the order: -4 ahead of no room", () -> refuses(withFullRow(), -4, x -> x.row(-1)));
        String judge = "JUDGED; -9 (whichever it answers, the ROW has none then). -1 (it stays).";
        edge(46, judge, "all is so: -9, and the row has none then", () -> {
            HandbagLady x = withFullRow();
            none(x.judge(0));
            due(x.count(8), x.row(5), 0, 1);
        });
        edge(46, judge, "one is not so: the row has none then", () -> {
            HandbagLady x = withRow(TWO, 0, 1, 2, 4, 3);
            due(x.judge(0), x.count(8), 3, 0);
        });
        refused(46, judge, "-1 (it stays)", -1, TWO, x -> x.judge(2), x -> x.judge(-1), x -> x.judge(LEAST), x -> x.judge(GREATEST));
        edge(46, judge, "-1 (it stays), a full one, number by number", () -> {
            HandbagLady x = withRow("l950;", 0, 1, 2, 3, 4, 5, 5, 5, 5, 5, 5, 99);
            due(x.judge(1), x.count(8), x.judge(0), -1, 12, 11);
        });
        edge(47, "The ROW has none then: how many it had.", "12, then 0, then there is room for 12", () -> {
            HandbagLady x = withFullRow();
            due(x.clear(), x.count(8), x.clear(), x.row(7), 12, 0, 0, 1);
        });
        edge(47, "The ROW has none then: how many it had.", "0 of a new object", () -> due(new HandbagLady().clear(), 0));
    }

    private static void lots() {
        String lots = "LOTS: HOURS (what 0), SNAPS (1). -4; -6 20; -2.";
        edge(48, lots, "1 and 20 weeks, what 0 and 1, the least and the greatest seed", () -> {
            HandbagLady x = of("b290;l050;g00;c5;");
            due(x.lots(1, LEAST, 0), x.lots(20, GREATEST, 0), x.lots(1, 0, 1), x.lots(20, -1, 1), 24, 480, 0, 0);
        });
        refused(48, lots, "-4: below 1", -4, TWO, x -> x.lots(0, 0, 0), x -> x.lots(-1, 0, 1), x -> x.lots(LEAST, 0, 0));
        refused(48, lots, "-6: above 20", -6, TWO, x -> x.lots(21, 0, 0), x -> x.lots(GREATEST, 0, 1));
        refused(48, lots, "-2: what", -2, TWO, x -> x.lots(1, 0, -1), x -> x.lots(20, 0, 2), x -> x.lots(1, 0, LEAST), x -> x.lots(1, 0, GREATEST));
        refused(48, lots, "the order: -4 ahead of -2", -4, TWO, x -> x.lots(0, 0, 2));
        refused(48, lots, "the order: -6 ahead of -2", -6, TWO, x -> x.lots(21, 0, 2));
    }

    private static void imageAndRestore() {
        edge(49, "THE IMAGE is taken: HOUR.", "hour 0 and hour 999", () -> due(new HandbagLady().image(), atHour(999).image(), 0, 999));
        String restored = "It is RESTORED: HOUR. -3 there is none.";
        edge(50, restored, "hour 0 from hour 999, and hour 999", () -> {
            HandbagLady x = new HandbagLady();
            x.image();
            for (int k = 0; k < 16; k++) {
                x.hours(60);
            }
            due(x.hours(39), x.count(2), x.restore(), x.count(2), 0, 999, 0, 0);
            HandbagLady y = atHour(999);
            due(y.image(), y.restore(), y.count(2), 999, 999, 999);
        });
        edge(50, restored, "-3: there is none", () -> {
            refuses(new HandbagLady(), -3, HandbagLady::restore);
            refuses(of(TWO), -3, HandbagLady::restore);
        });
        edge(50, restored, "-3: what can be taken back stays", () -> {
            HandbagLady x = of(TWO);
            x.colonel(4);
            refuses(x, -3, HandbagLady::restore);
            due(x.count(9), x.back(), x.count(3), 1, 0, 0);
        });
    }

    private static void count() {
        String count = "0 BAGS, 1 BEARERS, 2 HOUR, 3 the COLONEL's PLACE, 4 BAGS that somebody has, 5 all BREATH, 6 LED ones, 7 letters, 8 in the ROW,"
                + " 9 what can be TAKEN BACK, 11 .. 16 REFUSALS -1 .. -6. -9 for another what.";
        edge(51, count, "-9: 10 and 17, beside those that are told", () -> none(of(TWO).count(10), of(TWO).count(17)));
        edge(51, count, "-9: below 0, and far beyond", () -> none(of(TWO).count(-1), of(TWO).count(LEAST), of(TWO).count(GREATEST), of(TWO).count(-11)));
        edge(51, count, "-9 is no refusal", () -> {
            HandbagLady x = of(TWO);
            due(x.count(10), x.count(17), x.count(12), x.count(11), -9, -9, 0, 0);
        });
        edge(51, count, "0 to 9, all of them 0 of a new object", () -> {
            for (int what = 0; what <= 9; what++) {
                due(new HandbagLady().count(what), 0);
            }
        });
        edge(51, count, "0 to 9, each at its most", () -> {
            HandbagLady x = of("b090;b090;b090;b090;b090;b090;l000;l000;l000;l000;l000;");
            HandbagLady y = with96Letters();
            for (int l = 0; l <= 4; l++) {
                x.gives(l, l);
            }
            for (int k = 0; k <= 8; k++) {
                x.colonel(9);
            }
            due(x.count(0), x.count(1), x.count(3), x.count(4), x.count(5), x.count(6), x.count(9), y.count(7), withFullRow().count(8), atHour(999).count(2),
                    6, 5, 9, 5, 45, 5, 8, 96, 12, 999);
        });
        edge(51, count, "11 to 16, a number each; -5 is never answered", () -> {
            HandbagLady x = new HandbagLady();
            due(x.colonel(10), x.heir(2), x.back(), x.hours(0), x.hours(61), -1, -2, -3, -4, -6);
            due(x.count(11), x.count(12), x.count(13), x.count(14), x.count(15), x.count(16), 1, 1, 1, 1, 0, 1);
        });
    }
}

import java.util.function.ToLongFunction;

/** The edges that part II. names: hours in mind, which bag brings whom where, rows, arms, sleep and lots. */
final class MindEdges extends Edges {
    // With will 0 and want 5 led to and fro between 0 and 1 by a frame: out of breath behind 9, 13 and 17 hours.
    private static final String TO_AND_FRO = "b390;l050;g00;";
    // Led to 2 by a plain bag, with will 0 and want 9, from 0.
    private static final String LED = "b052;l090;g00;";
    // Without a bag, from 0 to 4.
    private static final String FREE = "l940;";
    // Two led by frames, who are at one place behind 60 hours first, or behind 61.
    private static final String AT_SIXTY = "b326;b336;l023;l095;g00;g11;c2;";
    private static final String AT_SIXTY_ONE = "b376;b383;l109;l067;g00;g11;c8;";

    static void all() {
        hoursOn();
        meetAndCompany();
        breathless();
        snaps();
        bestBag();
        hers();
        errandAndDefy();
        given();
        quiet();
        stable();
        whose();
        nextTell();
        arm();
        sleep();
        rowsAndJudged();
        lots();
    }

    private static void hoursOn() {
        String on = "In mind, n HOURS on (0 .. 60): AT, BREATH of one, how many HOURS of these she was LED (not resting), PULL of her BAG (-9 none).";
        edge(15, on, "0 hours on: as it is now", () -> {
            HandbagLady x = of(LED + "h01;");
            due(x.behind(0, 0, 0), x.behind(0, 0, 1), x.behind(0, 0, 2), x.behind(0, 0, 3), 1, 8, 0, 5);
        });
        edge(15, on, "60 hours on, the most", () -> {
            HandbagLady x = of("b152;l090;g00;");
            due(x.behind(0, 60, 0), x.behind(0, 60, 1), x.behind(0, 60, 2), x.behind(0, 60, 3), 2, 7, 60, 65);
        });
        edge(15, on, "in mind: nothing changes", () -> {
            HandbagLady x = of(LED);
            due(x.behind(0, 60, 0), 2);
            alike(x, of(LED));
        });
        edge(15, on, "from hour 999 on: the next is even", () -> {
            HandbagLady x = of("h60;".repeat(16) + "h39;b394;l080;g00;");
            due(x.count(2), x.behind(0, 1, 0), x.behind(0, 2, 0), x.behind(0, 3, 0), 999, 1, 0, 1);
        });
        edge(15, on, "hours of rest are none in which she was led", () -> {
            HandbagLady x = of(TO_AND_FRO);
            due(x.behind(0, 9, 2), x.behind(0, 10, 2), x.behind(0, 11, 2), x.behind(0, 14, 2), 9, 9, 10, 12);
        });
        edge(15, on, "hours at the goal are", () -> due(of(LED).behind(0, 2, 2), of(LED).behind(0, 9, 2), 2, 9));
        fromNowOn();
        edge(15, on, "no bag: no pull", () -> none(of(FREE).behind(0, 0, 3), of("b090;l940;").behind(0, 60, 3)));
    }

    // Four who are led by bags of many kinds, all of them on their way.
    private static final String MANY = "b154;b296;b390;b497;b582;l070;l340;l225;l893;g00;g11;g22;g33;f34;c2;h05;";

    private static void fromNowOn(int promise, String title, ToLongFunction<HandbagLady> question) {
        fromNowOn(promise, title, MANY, question);
    }

    private static void fromNowOn(int promise, String title, String letters, ToLongFunction<HandbagLady> question) {
        edge(promise, "In mind, n HOURS on (0 .. 60)", title + ": from now on, whatever was asked before", () -> {
            long first = question.applyAsLong(of(letters));
            HandbagLady x = of(letters);
            x.sleep(0, 0, 8, 2, 0);
            due(question.applyAsLong(x), first);
            x.lots(3, 7, 0);
            due(question.applyAsLong(x), first);
            x.defy(0, 9, 60);
            due(question.applyAsLong(x), question.applyAsLong(x), first, first);
            alike(x, of(letters));
        });
    }

    private static void fromNowOn() {
        fromNowOn(15, "behind(), at", x -> x.behind(0, 1, 0));
        fromNowOn(15, "behind(), hours led", x -> x.behind(2, 20, 2));
        fromNowOn(16, "meet()", x -> x.meet(0, 2));
        fromNowOn(17, "company(), how many", x -> x.company(1, 0));
        fromNowOn(17, "company(), the place", x -> x.company(0, 1));
        fromNowOn(18, "breathless()", x -> x.breathless(2));
        fromNowOn(18, "breathless(), who first", x -> x.breathless(-1));
        fromNowOn(19, "snaps()", x -> x.snaps(20, 0));
        fromNowOn(19, "snaps(), the colonel", x -> x.snaps(6, 1));
        fromNowOn(19, "snaps(), the least led", x -> x.snaps(20, 2));
        fromNowOn(20, "bestBag()", x -> x.bestBag(2, 7, 0));
        fromNowOn(20, "bestBag(), when", x -> x.bestBag(2, 4, 1));
        fromNowOn(21, "hers()", "b100;l990;g00;", x -> x.hers(0));
        fromNowOn(22, "errand()", "b000;l900;g00;", x -> x.errand(0, 4));
        fromNowOn(23, "defy()", x -> x.defy(0, 7, 9));
        fromNowOn(24, "given()", x -> x.given(0, 2, -1) * 100 + x.given(0, 2, 3));
        fromNowOn(25, "quiet()", x -> x.quiet(20, -1) * 100 + x.quiet(20, 2));
        fromNowOn(27, "whose()", x -> {
            x.clear();
            x.row(x.bearerOf(0, 2));
            return x.whose(0, 0) + x.clear();
        });
        fromNowOn(28, "nextTell()", x -> x.nextTell(0, 2, 0) * 10 + x.nextTell(0, 2, 1));
        fromNowOn(29, "arm()", "l940;l955;", x -> x.arm(0, 1, 1));
        fromNowOn(30, "sleep()", x -> x.sleep(0, 4, 2, 3, 0));
        fromNowOn(31, "swap()", x -> x.swap(11));
        fromNowOn(34, "tired()", x -> x.tired(0));
        fromNowOn(35, "visits()", x -> x.visits(2, 1, 20));
        fromNowOn(36, "together()", "l940;l949;", x -> x.together(0, 1, 6));
        fromNowOn(37, "rests()", x -> x.rests(2, 20));
        fromNowOn(38, "firstSnap()", "b204;l902;g00;", x -> x.firstSnap());
        fromNowOn(39, "busy()", x -> x.busy(3, 0) * 100 + x.busy(3, 1));
        fromNowOn(40, "tamed()", "b150;l700;g00;h01;", x -> x.tamed(0));
        fromNowOn(42, "gathering()", x -> x.gathering());
        fromNowOn(43, "bestHabit()", x -> x.bestHabit(0, 6));
        fromNowOn(44, "farthest()", x -> x.farthest(0, 0) * 10 + x.farthest(0, 1));
        fromNowOn(46, "judge()", x -> {
            x.row(x.bearerOf(2, 2));
            x.row(9);
            return x.judge(2);
        });
        fromNowOn(48, "lots()", x -> x.lots(2, 5, 0) * 1000 + x.lots(2, 5, 1));
    }

    private static void meetAndCompany() {
        String meet = "MEET: the first n (0 .. 60) behind which two are AT one PLACE; -9;";
        edge(16, meet, "0: now", () -> due(of("l955;l905;").meet(0, 1), of("l955;l905;").meet(1, 0), 0, 0));
        edge(16, meet, "60 is the last", () -> due(of(AT_SIXTY).meet(0, 1), of(AT_SIXTY).meet(1, 0), 60, 60));
        edge(16, meet, "61 is too late", () -> {
            HandbagLady x = of(AT_SIXTY_ONE);
            due(x.meet(0, 1), x.meet(1, 0), x.hours(1), x.meet(0, 1), x.meet(1, 0), -9, -9, 0, 60, 60);
        });
        edge(16, meet, "never", () -> none(of("l900;l911;").meet(0, 1)));
        edge(16, meet, "who only change places do not meet", () -> none(of("l910;l901;").meet(0, 1)));
        String company = "COMPANY: behind n how many are AT the PLACE AT which most are; that PLACE, of several the least.";
        edge(17, company, "of several the least: 3, 5 and 7", () -> due(of("l997;l993;l995;").company(0, 0), of("l997;l993;l995;").company(0, 1), 1, 3));
        edge(17, company, "of several the least: 0 and 9", () -> due(of("l999;l900;").company(0, 1), of("l999;l900;l909;").company(0, 1), 0, 9));
        edge(17, company, "each of 0 .. 9 is looked at", () -> {
            for (int v = 0; v <= 9; v++) {
                HandbagLady x = of("l9" + v + v + ";l9" + v + v + ";l9" + (v + 9) % 10 + (v + 9) % 10 + ";");
                due(x.company(0, 0), x.company(0, 1), 2, v);
            }
        });
        edge(17, company, "behind 0 and behind 60 hours", () -> {
            HandbagLady x = of("l940;l940;l949;l988;");
            due(x.company(0, 0), x.company(0, 1), x.company(60, 0), x.company(60, 1), 2, 0, 3, 4);
        });
        edge(17, company, "all five at one", () -> due(of("l999;".repeat(5)).company(0, 0), of("l999;".repeat(5)).company(0, 1), 5, 9));
        edge(17, company, "without bearers nobody, at 0", () ->
                due(new HandbagLady().company(0, 0), new HandbagLady().company(0, 1), new HandbagLady().company(60, 1), 0, 0, 0));
    }

    private static void breathless() {
        String first = "BREATHLESS: the first n (0 .. 60) behind which one's BREATH is 0; -9;";
        edge(18, first, "0: now", () -> due(of(TO_AND_FRO + "h09;").breathless(0), 0));
        edge(18, first, "the first of several", () -> due(of(TO_AND_FRO).breathless(0), of(TO_AND_FRO + "h10;").breathless(0), 9, 3));
        edge(18, first, "never", () -> none(of(FREE).breathless(0), of(LED).breathless(0)));
        edge(18, first, "breath 1 is not 0", () -> none(of("b390;l050;l900;g00;h08;g01;").breathless(0)));
        String who = "who is so first, of several the least; -9.";
        edge(18, who, "two in one hour: the lesser", () -> due(of("b390;b390;l900;l050;l050;g01;g12;").breathless(-1), 1));
        edge(18, who, "the least there is: 0", () -> due(of(TO_AND_FRO).breathless(-1), of("b390;b390;l050;l050;g00;g11;").breathless(-1), 0, 0));
        edge(18, who, "breath 1 is not 0", () -> due(of("b390;l050;l900;g00;h08;g01;").breathless(-1), of("b390;b390;l050;l900;g00;h08;g01;l050;g12;").breathless(-1), -9, 2));
        edge(18, who, "the greater, sooner by some hours", () -> due(of("b390;b390;l050;l050;g01;h04;g10;").breathless(-1), 1));
        edge(18, who, "who is so now", () -> due(of("l900;" + "b390;l050;g01;h09;").breathless(-1), 1));
        edge(18, who, "nobody ever", () -> none(of(FREE + LED.replace("g00", "g01")).breathless(-1)));
        edge(18, who, "there is nobody", () -> none(new HandbagLady().breathless(-1)));
    }

    private static void snaps() {
        edge(19, "SNAPS of n HOURS.", "in 0 hours none, though she is at his place", () -> due(of("b200;l900;g00;").snaps(0, 0), 0));
        edge(19, "SNAPS of n HOURS.", "in 60 hours 60", () -> due(of("b200;l900;g00;").snaps(60, 0), 60));
        String where = "WHERE COLONEL: the PLACE for him with fewest SNAPS in n HOURS, of several the least;";
        edge(19, where, "in 0 hours all are alike: 0", () -> due(of("b200;l900;g00;c7;").snaps(0, 1), 0));
        edge(19, where, "nobody is snapped at anywhere: 0", () -> due(of(FREE + "c7;").snaps(60, 1), new HandbagLady().snaps(60, 1), 0, 0));
        edge(19, where, "of several the least: not 0, not 1, but 2", () -> due(of("b204;l902;g00;").snaps(5, 1), 2));
        edge(19, where, "9 alone has none", () -> due(of("b200;b200;l949;l959;g00;g11;").snaps(5, 1), of("b200;b200;l949;l959;g00;g11;").snaps(4, 1), 9, 4));
        edge(19, where, "each has some: the least with the fewest", () ->
                due(of("b200;b200;b200;l949;l959;l999;g00;g11;g22;").snaps(5, 1), 0));
        edge(19, where, "in mind: he stays, and she is led as if he stood there", () -> {
            HandbagLady x = of("b290;l900;g00;c5;");
            due(x.snaps(60, 1), x.count(3), x.snaps(60, 0), 0, 5, 0);
        });
        String least = "LEAST LED: the BEARER LED fewest HOURS of n, of several the least; -9.";
        edge(19, least, "of several the least", () -> due(of(LED + FREE + FREE).snaps(9, 2), of(FREE + FREE).snaps(9, 2), 1, 0));
        edge(19, least, "in 0 hours 0", () -> due(of(LED + FREE).snaps(0, 2), 0));
        edge(19, least, "there is nobody", () -> none(new HandbagLady().snaps(60, 2)));
        edge(19, least, "she who rests is led fewer", () -> due(of("b099;b390;l000;l050;g00;g11;").snaps(60, 2), of("b099;b390;l000;l050;g00;g11;").snaps(9, 2), 1, 0));
    }

    private static void bestBag() {
        String best = "by which she is AT a PLACE v soonest (0 .. 60), of several the least BAG; -9; when.";
        edge(20, best, "0: she is there now", () -> due(of("b052;b054;l000;").bestBag(0, 0, 0), of("b052;b054;l000;").bestBag(0, 0, 1), 0, 0));
        edge(20, best, "of several the least", () -> {
            HandbagLady x = of("b052;b054;b554;b554;l000;");
            due(x.bestBag(0, 4, 0), x.bestBag(0, 4, 1), 2, 2);
        });
        edge(20, best, "the last of six", () -> {
            HandbagLady x = of("b052;b052;b052;b052;b052;b054;l000;");
            due(x.bestBag(0, 4, 0), x.bestBag(0, 4, 1), 5, 4);
        });
        edge(20, best, "sooner by one hour is sooner", () -> {
            HandbagLady x = of("b054;b504;b054;l000;");
            due(x.bestBag(0, 4, 0), x.bestBag(0, 4, 1), 1, 3);
        });
        // No bag is known to bring anybody anywhere for the first time behind 59 hours or more: 58 is as near to 60 as it goes.
        edge(20, best, "behind 57 hours, by a frame", () -> {
            HandbagLady x = of("b385;l004;");
            due(x.bestBag(0, 9, 0), x.bestBag(0, 9, 1), 0, 57);
        });
        edge(20, best, "by none ever", () -> none(of("b052;b054;l000;").bestBag(0, 7, 0), of("b052;b054;l000;").bestBag(0, 7, 1)));
        edge(20, best, "without bags by none, though she is there", () -> none(of(FREE).bestBag(0, 0, 0), of(FREE).bestBag(0, 0, 1)));
        String gives = "BEST BAG for one (what she has now nobody has then, who had that one has none):";
        edge(20, gives, "nobody has a pair's friend then, which she had: it leads to its habit", () -> {
            HandbagLady x = of("b000;b495;l000;g00;f01;");
            due(x.bestBag(0, 5, 0), x.bestBag(0, 5, 1), 1, 5);
        });
        edge(20, gives, "of two who follow each other one has none then", () -> {
            HandbagLady x = of("b490;b490;l000;l088;l044;g01;g12;f01;");
            due(x.bestBag(0, 2, 0), x.bestBag(0, 2, 1), x.bestBag(0, 3, 0), x.bestBag(0, 3, 1), 0, 2, -9, -9);
        });
        edge(20, gives, "in mind: all have what they had", () -> {
            HandbagLady x = of("b490;b490;l000;l088;l044;g01;g12;f01;");
            due(x.bestBag(0, 2, 0), 0);
            alike(x, of("b490;b490;l000;l088;l044;g01;g12;f01;"));
        });
    }

    private static void hers() {
        String hers = "HERS: the first n (0 .. 60) behind which she is LED (BREATH aside); -9.";
        edge(21, hers, "0: now", () -> due(of(LED).hers(0), 0));
        edge(21, hers, "a widow's of figure 0 and will 9: behind 10 hours", () -> due(of("b100;l990;g00;").hers(0), of("b100;l990;g00;h09;").hers(0), 10, 1));
        edge(21, hers, "breath aside: out of breath she is", () -> due(of(TO_AND_FRO + "h09;").hers(0), 0));
        edge(21, hers, "never by as great a pull", () -> none(of("b090;l990;g00;").hers(0)));
        edge(21, hers, "never without a bag", () -> none(of("b090;l000;").hers(0)));
    }

    private static void errandAndDefy() {
        String errand = "ERRAND: were v her WANT: the first n (0 .. 60) behind which she is AT v; -9;";
        edge(22, errand, "0: she is there", () -> due(of(FREE).errand(0, 0), of(LED).errand(0, 0), 0, 0));
        edge(22, errand, "5, the farthest, and round over 0", () -> due(of(FREE).errand(0, 5), of(FREE).errand(0, 9), of("l907;").errand(0, 1), 5, 1, 4));
        edge(22, errand, "behind 58 hours, led by a pair behind a frame", () -> due(of("b463;b392;l269;l371;g00;g11;f01;").errand(0, 6), 58));
        edge(22, errand, "never: led elsewhere", () -> none(of(LED).errand(0, 7), of(LED).errand(0, 3)));
        edge(22, errand, "were it: her want stays", () -> {
            HandbagLady x = of(FREE);
            due(x.errand(0, 7), x.bearerOf(0, 1), 3, 4);
        });
        String defy = "DEFY: the least WILL (0 .. 9) with which she is there within n HOURS; -9.";
        edge(23, defy, "0, the least", () -> due(of("b002;l900;g00;").defy(0, 7, 3), of(FREE).defy(0, 7, 60), 0, 0));
        edge(23, defy, "9, the greatest", () -> due(of("b094;l000;g00;").defy(0, 7, 3), 9));
        edge(23, defy, "10 would do, but is none", () -> none(of("b264;l000;g00;").defy(0, 7, 3), of("b554;l900;g00;").defy(0, 7, 3)));
        edge(23, defy, "within n: in n hours, not in n + 1", () -> due(of("b054;l400;g00;").defy(0, 7, 3), of("b054;l400;g00;").defy(0, 7, 2), 5, -9));
        edge(23, defy, "within 0 hours: she is there, or not", () -> due(of("b054;l400;g00;").defy(0, 0, 0), of("b054;l400;g00;").defy(0, 1, 0), 0, -9));
        edge(23, defy, "within 60 hours", () -> due(of("b054;l400;g00;").defy(0, 7, 60), of("b554;l400;g00;").defy(0, 7, 60), 5, -9));
        edge(23, defy, "her will stays", () -> {
            HandbagLady x = of("b054;l400;g00;");
            due(x.defy(0, 7, 3), x.bearerOf(0, 0), x.bearerOf(0, 1), 5, 4, 0);
        });
    }

    private static void given() {
        String ways = "GIVEN: all ways to give BEARERS (4 at most) BAGS, each another one or none (as many BAGS as can be: none only if BAGS lack), HELD 0:";
        edge(24, ways, "bags for all: nobody has none, though so they would meet", () -> {
            HandbagLady x = of("b099;b091;l055;l054;");
            due(x.given(0, 1, -1), x.given(0, 1, 0), x.given(0, 1, 1), -9, 0, 1);
        });
        edge(24, ways, "a bag lacks: one has none", () -> {
            HandbagLady x = of("b053;l033;l000;");
            due(x.given(0, 1, -1), x.given(0, 1, 0), x.given(0, 1, 1), 3, -9, 0);
        });
        edge(24, ways, "without bags all have none", () -> {
            HandbagLady x = of("l940;l949;");
            due(x.given(0, 1, -1), x.given(0, 1, 0), x.given(0, 1, 1), 5, -9, -9);
        });
        edge(24, ways, "more bags than bearers: the best of six", () -> {
            HandbagLady x = of("b055;b055;b055;b055;b051;b051;l000;l022;");
            due(x.given(0, 1, -1), x.given(0, 1, 0), x.given(0, 1, 1), 1, 0, 4);
        });
        edge(24, ways, "held 0, whatever is held now", () -> {
            HandbagLady x = of("b105;l000;l055;g00;h01;");
            due(x.given(0, 1, -1), x.meet(0, 1), 6, 5);
        });
        edge(24, ways, "4 bearers", () -> {
            HandbagLady x = of("b053;l033;l000;l900;l900;");
            due(x.given(0, 1, -1), x.given(0, 1, 1), x.given(0, 1, 3), 3, 0, -9);
        });
        String which = "that by which two BEARERS MEET soonest (never: last), of several the first (by BEARERS, the least BAG first, none last):"
                + " when; the i-th one's BAG; -9.";
        edge(24, which, "never is later than behind 3 hours, though the way is the first", () -> {
            HandbagLady x = of("b053;l033;l000;");
            due(x.given(1, 0, -1), x.given(1, 0, 0), 3, -9);
        });
        edge(24, which, "of several the first: the least bags first", () -> {
            HandbagLady x = of("b055;b055;b055;l000;l002;");
            due(x.given(0, 1, -1), x.given(0, 1, 0), x.given(0, 1, 1), 5, 0, 1);
        });
        edge(24, which, "of several the first: none last", () -> {
            HandbagLady x = of("b000;b000;l000;l000;l900;g10;");
            due(x.given(1, 0, -1), x.given(1, 0, 0), x.given(1, 0, 1), x.given(1, 0, 2), 0, 0, 1, -9);
        });
        edge(24, which, "of several the first: by the first bearer, then the second", () -> {
            HandbagLady x = of("b052;b058;b094;b058;l000;l066;");
            due(x.given(0, 1, -1), x.given(0, 1, 0), x.given(0, 1, 1), 2, 1, 3);
        });
        edge(24, which, "sooner by one hour is sooner", () -> {
            HandbagLady x = of("b592;l050;l025;");
            due(x.given(0, 1, -1), x.given(0, 1, 0), x.given(0, 1, 1), 2, -9, 0);
        });
        edge(24, which, "behind 60 hours, the last", () -> due(of(AT_SIXTY).given(0, 1, -1), 60));
        edge(24, which, "behind 61, too late", () -> {
            HandbagLady x = of(AT_SIXTY_ONE);
            due(x.given(0, 1, -1), x.hours(1), x.given(0, 1, -1), -9, 0, 60);
        });
        edge(24, which, "never by any: the first way", () -> {
            HandbagLady x = of("b000;b000;b000;l000;l011;");
            due(x.given(0, 1, -1), x.given(0, 1, 0), x.given(0, 1, 1), -9, 0, 1);
        });
        edge(24, which, "the last bearer, and one behind her", () -> {
            HandbagLady x = of("b000;b000;l000;l000;");
            due(x.given(0, 1, 1), x.given(0, 1, 2), x.given(0, 1, GREATEST), 1, -9, -9);
        });
        edge(24, which, "in mind: all have what they had", () -> {
            HandbagLady x = of("b100;b000;l900;l900;g01;h05;");
            due(x.given(0, 1, -1), 0);
            alike(x, of("b100;b000;l900;l900;g01;h05;"));
        });
    }

    private static void quiet() {
        String quiet = "QUIET: likewise that by which all together are LED fewest HOURS of n.";
        edge(25, quiet, "of 0 hours none, by the first way", () -> {
            HandbagLady x = of("b090;b010;l000;l100;");
            due(x.quiet(0, -1), x.quiet(0, 0), x.quiet(0, 1), 0, 0, 1);
        });
        edge(25, quiet, "of 60 hours", () -> {
            HandbagLady x = of("b090;b010;l000;l100;");
            due(x.quiet(60, -1), x.quiet(60, 0), x.quiet(60, 1), 60, 0, 1);
        });
        edge(25, quiet, "a bag for her: she has one, though so she is led", () -> due(of("b090;l000;").quiet(10, -1), of("b090;l000;").quiet(10, 0), 10, 0));
        edge(25, quiet, "bags lack: of several the first, none last", () -> {
            HandbagLady x = of("b050;b090;l400;l600;l000;");
            due(x.quiet(10, -1), x.quiet(10, 0), x.quiet(10, 1), x.quiet(10, 2), 10, 1, 0, -9);
        });
        edge(25, quiet, "one hour fewer is fewer", () -> {
            HandbagLady x = of("b150;l300;l500;");
            due(x.quiet(5, -1), x.quiet(5, 0), x.quiet(5, 1), 4, -9, 0);
        });
        edge(25, quiet, "of several the first", () -> {
            HandbagLady x = of("b000;b000;b000;l000;l000;");
            due(x.quiet(10, -1), x.quiet(10, 0), x.quiet(10, 1), 0, 0, 1);
        });
        edge(25, quiet, "held 0: a widow's leads in the last 5 of 10 hours, or in the last 9", () ->
                due(of("b150;l090;l990;g00;h09;").quiet(10, -1), of("b150;l590;g00;h09;").quiet(10, -1), 5, 9));
        edge(25, quiet, "4 bearers with 6 bags", () -> {
            HandbagLady x = of("b090;b080;b070;b060;b050;b040;l700;l600;l500;l400;");
            due(x.quiet(10, -1), x.quiet(10, 0), x.quiet(10, 1), x.quiet(10, 2), x.quiet(10, 3), 0, 2, 3, 4, 5);
        });
        edge(25, quiet, "without bearers or bags", () -> {
            due(new HandbagLady().quiet(60, -1), new HandbagLady().quiet(60, 0), 0, -9);
            due(of("b090;").quiet(60, -1), of("b090;").quiet(60, 0), of(FREE).quiet(60, -1), of(FREE).quiet(60, 0), 0, -9, 0, -9);
        });
        edge(25, quiet, "the last bearer, and one behind her", () -> due(of("b000;l000;").quiet(0, 0), of("b000;l000;").quiet(0, 1), 0, -9));
    }

    private static void stable() {
        String bearers = "STABLE: BEARERS would rather have less PULL (HELD 0, no FRIENDS; of several the least BAG),";
        edge(26, bearers, "held 0", () -> due(of("b130;b050;l200;l900;g00;h60;").stable(0), of("b130;b050;l200;l900;g00;h60;").stable(1), 0, 1));
        edge(26, bearers, "held 0: as great a pull as a plain bag's", () -> due(of("b050;b150;l200;l900;").stable(0), of("b150;b050;l200;l900;").stable(0),
                of("b060;b150;b050;l200;l900;").stable(0), 0, 0, 1));
        edge(26, bearers, "no friends", () -> due(of("b440;b050;b000;l200;l900;g20;f02;").stable(1), of("b440;b050;b000;l200;l900;l900;g20;f02;").stable(2), 0, 1));
        edge(26, bearers, "of several the least bag", () ->
                due(of("b050;b050;b050;l200;l300;").stable(0), of("b050;b050;b050;l200;l300;").stable(1), 0, 1));
        String bags = "BAGS rather less WILL (of several the least BEARER):";
        edge(26, bags, "of several the least bearer", () -> due(of("b050;l300;l300;").stable(0), of("b050;l300;l300;").stable(1), 0, -9));
        edge(26, bags, "will 0 and will 9", () -> due(of("b090;b000;l900;l000;").stable(0), of("b090;b000;l900;l000;").stable(1), 0, 1));
        String turns = "by turns BEARERS ask BAGS in their order, BAGS keep whom they would rather:";
        edge(26, turns, "five and six, each the other way round", () -> {
            HandbagLady x = of("b050;b040;b030;b020;b010;b000;l400;l300;l200;l100;l000;");
            due(x.stable(0), x.stable(1), x.stable(2), x.stable(3), x.stable(4), 1, 2, 3, 4, 5);
        });
        edge(26, turns, "who asked first is left, if another one has less will", () ->
                due(of("b000;b090;l900;l800;").stable(0), of("b000;b090;l900;l800;").stable(1), 1, 0));
        String ith = "the i-th one's BAG; -9.";
        edge(26, ith, "no bag is left", () -> none(of("b000;l900;l000;").stable(0)));
        edge(26, ith, "there are no bags", () -> none(of(FREE).stable(0)));
    }

    private static void whose() {
        String whose = "WHOSE: a ROW tells AT of a BEARER behind 0, 1, .. HOURS: KINDS (bits) of her BAG by which it is so; FIGURES (bits);"
                + " HABITS (bits); WILLS (bits 0 .. 9); without a BAG: 0.";
        edge(27, whose, "an empty row: it is so by all", () -> {
            HandbagLady x = of(LED);
            due(x.whose(0, 0), x.whose(0, 1), x.whose(0, 2), x.whose(0, 3), 63, 1023, 1023, 1023);
        });
        edge(27, whose, "without a bag 0, by an empty row, too", () -> {
            HandbagLady x = of("b000;" + FREE);
            due(x.whose(0, 0), x.whose(0, 1), x.whose(0, 2), x.whose(0, 3), 0, 0, 0, 0);
        });
        edge(27, whose, "the first number is where she is now: by all or by none", () ->
                due(withRow(LED, 0).whose(0, 1), withRow(LED, 1).whose(0, 1), 1023, 0));
        edge(27, whose, "kinds: 0 among others, 5 alone, 2 alone", () -> {
            due(withRow("b063;l500;g00;", 0, 1).whose(0, 0), 1 | 2 | 4 | 16);
            due(withRow("b093;l000;g00;", 0, 2).whose(0, 0), 32);
            due(withRow("b093;l900;g00;c8;", 0, 1).whose(0, 0), 4);
        });
        edge(27, whose, "figures: 0 alone, and 9 alone", () ->
                due(withRow("b053;l090;g00;", 0, 9).whose(0, 1), withRow("b053;l890;g00;", 0, 1).whose(0, 1), 1, 512));
        edge(27, whose, "habits: 0 and 9 among them", () -> due(withRow("b093;l051;g00;", 1, 0).whose(0, 2), 1 + 128 + 256 + 512));
        edge(27, whose, "wills: 0 .. 8, and 9 alone", () ->
                due(withRow("b093;l090;g00;", 0, 1).whose(0, 3), withRow("b093;l090;g00;", 0, 9).whose(0, 3), 511, 512));
        edge(27, whose, "a full row of 12", () ->
                due(withRow("b093;l003;g00;", 3, 3, 3, 3, 3, 3, 3, 3, 3, 3, 3, 3).whose(0, 0),
                        withRow("b093;l003;g00;", 3, 3, 3, 3, 3, 3, 3, 3, 3, 3, 3, 4).whose(0, 0), 1 | 2 | 16 | 32, 0));
        edge(27, whose, "10 and 99 are no places", () -> due(withRow("b093;l000;g00;", 10).whose(0, 0), withRow("b093;l009;g00;", 99).whose(0, 3), 0, 0));
        edge(27, "WHOSE by the ROW (it stays)", "it stays", () -> {
            HandbagLady x = withRow(LED, 0, 1);
            due(x.whose(0, 0), x.count(8), x.whose(0, 0), x.count(8), x.judge(0), 1 | 2 | 4 | 16, 2, 1 | 2 | 4 | 16, 2, -9);
        });
    }

    private static void nextTell() {
        String tell = "NEXT TELL: the PLACE for the COLONEL by which AT of a BEARER behind n HOURS by her BAG's KINDS is most unlike, of several the least; how many.";
        edge(28, tell, "behind 0 hours all is alike: 0, and 1", () -> due(of("b093;l000;g00;c7;").nextTell(0, 0, 0), of("b093;l000;g00;c7;").nextTell(0, 0, 1), 0, 1));
        edge(28, tell, "1, 2, 3 and 4 alike: the least", () -> due(of("b093;l000;g00;").nextTell(0, 1, 0), of("b093;l000;g00;").nextTell(0, 1, 1), 1, 4));
        edge(28, tell, "each place is counted once, 0 only if she may be there", () ->
                due(of("b005;l955;g00;").nextTell(0, 0, 1), of("b009;l999;g00;").nextTell(0, 60, 1), of("b095;l055;g00;").nextTell(0, 1, 1), 1, 1, 2));
        edge(28, tell, "behind 60 hours, by a bag that never leads", () ->
                due(of("b003;l900;g00;c7;").nextTell(0, 60, 0), of("b003;l900;g00;c7;").nextTell(0, 60, 1), 0, 6 - 4));
        edge(28, "(1; without a BAG 0, 1)", "without a bag", () -> {
            HandbagLady x = of("b093;" + FREE + "c7;");
            due(x.nextTell(0, 0, 0), x.nextTell(0, 0, 1), x.nextTell(0, 60, 0), x.nextTell(0, 60, 1), 0, 1, 0, 1);
        });
    }

    private static void arm() {
        String arm = "ARM IN ARM: two go n HOURS together from the PLACE of the first (all others stay; HELD as now; BREATH aside):";
        edge(29, arm, "0 hours: the place of the first", () -> due(of("l952;l957;").arm(0, 1, 0), of("l952;l957;").arm(1, 0, 0), 2, 7));
        edge(29, arm, "60 hours", () -> due(of("l952;l957;").arm(0, 1, 60), of("l952;l927;").arm(1, 0, 60), 5, 2));
        edge(29, arm, "all others stay", () -> due(of("b494;b000;l033;l000;l988;g00;g12;f01;").arm(0, 1, 2), of("b494;b000;l033;l000;l958;g00;g12;f01;").arm(0, 1, 60), 5, 8));
        edge(29, arm, "a pair's friend on the other's arm is where they are from the first hour on", () ->
                due(of("b494;b004;l033;l000;g00;g11;f01;").arm(0, 1, 1), of("b494;b004;l033;l000;g00;g11;f01;").arm(0, 1, 5), 3, 3));
        edge(29, arm, "held as now: a widow's never leads more", () -> due(of("b150;l595;l595;g00;").arm(0, 1, 60), of("b150;l595;l595;g00;h01;").arm(0, 1, 60), 9, 0));
        edge(29, arm, "breath aside: out of breath they go", () -> due(of("b390;b095;l050;l900;g00;h09;g10;").arm(0, 1, 1), of("b390;l050;l900;g00;h09;").arm(0, 1, 1), 2, 0));
        edge(29, arm, "breath aside: farther than breath goes", () -> due(of("b595;l000;l000;g00;").arm(0, 1, 60), 5));
        String leads = "in each (HOUR 1 more) the one LED whose PULL is more above her WILL leads both (alike the first; by PACE, to GOAL of her BAG),"
                + " if neither is, both go 1 PLACE to the WANT of the first: AT then.";
        edge(29, leads, "3 and 4 above: the second leads", () -> due(of("b052;b096;l230;l588;g00;g11;").arm(0, 1, 1), of("b052;b096;l230;l588;g00;g11;").arm(0, 1, 60), 9, 6));
        edge(29, leads, "alike: the first", () -> due(of("b052;b098;l230;l600;g00;g11;").arm(0, 1, 1), of("b052;b098;l230;l600;g00;g11;").arm(1, 0, 1), 1, 9));
        edge(29, leads, "neither is, with as great a pull as will: to the want of the first", () ->
                due(of("b052;b098;l530;l960;g00;g11;").arm(0, 1, 1), of("b052;b098;l530;l960;g00;g11;").arm(1, 0, 1), 1, 9));
        edge(29, leads, "only the second is, by 1", () -> due(of("b052;b098;l530;l860;g00;g11;").arm(0, 1, 1), 9));
        edge(29, leads, "HOUR 1 more: the first is odd, for a frame", () -> due(of("b394;l080;l000;g00;").arm(0, 1, 1), of("b394;l080;l000;g00;").arm(0, 1, 2), 9, 0));
        edge(29, leads, "by pace, not beyond the goal", () ->
                due(of("b593;l000;l000;g01;").arm(0, 1, 1), of("b593;l000;l000;g01;").arm(0, 1, 2), of("b593;l000;l000;g01;").arm(0, 1, 3), 2, 3, 3));
        edge(29, leads, "5 either way: upward", () -> due(of("b095;l000;l000;g00;").arm(0, 1, 1), of("l950;l900;").arm(0, 1, 1), 1, 1));
        edge(29, leads, "in mind: both are where they were", () -> {
            HandbagLady x = of(LED + FREE);
            due(x.arm(0, 1, 60), 2);
            alike(x, of(LED + FREE));
        });
    }

    private static void sleep() {
        String sleep = "SLEEP: in each HOUR, by itself, her BAG sleeps with odds 1 in t (2 .. 20) (she is not LED):"
                + " how likely she is AT v behind n HOURS (0 .. 8): a fraction.";
        edge(30, sleep, "behind 0 hours: sure where she is, else not", () -> {
            HandbagLady x = of("b095;l080;g00;");
            due(x.sleep(0, 0, 0, 2, 0), x.sleep(0, 0, 0, 2, 1), x.sleep(0, 1, 0, 2, 0), x.sleep(0, 1, 0, 2, 1), 1, 1, 0, 1);
        });
        edge(30, sleep, "behind 1 hour, odds 1 in 2", () -> {
            HandbagLady x = of("b095;l080;g00;");
            due(x.sleep(0, 1, 1, 2, 0), x.sleep(0, 1, 1, 2, 1), x.sleep(0, 9, 1, 2, 0), x.sleep(0, 9, 1, 2, 1), 1, 2, 1, 2);
        });
        edge(30, sleep, "behind 1 hour, odds 1 in 20", () -> {
            HandbagLady x = of("b095;l080;g00;");
            due(x.sleep(0, 1, 1, 20, 0), x.sleep(0, 1, 1, 20, 1), x.sleep(0, 9, 1, 20, 0), x.sleep(0, 9, 1, 20, 1), 19, 20, 1, 20);
        });
        edge(30, sleep, "behind 8 hours, odds 1 in 20, at each place", () -> upAsleepDownAwake(8, 20));
        edge(30, sleep, "behind 8 hours, odds 1 in 2, at each place", () -> upAsleepDownAwake(8, 2));
        edge(30, sleep, "without a bag it is sure", () -> due(of(FREE).sleep(0, 4, 8, 20, 0), of(FREE).sleep(0, 4, 8, 20, 1), of(FREE).sleep(0, 3, 8, 20, 0), 1, 1, 0));
        edge(30, sleep, "out of breath she rests, whether it sleeps or not", () ->
                due(of(TO_AND_FRO + "h09;").sleep(0, 1, 1, 2, 0), of(TO_AND_FRO + "h09;").sleep(0, 1, 1, 2, 1), 1, 1));
        edge(30, sleep, "her bag alone sleeps: another one's is awake", () -> {
            HandbagLady x = of("b093;b490;l070;l090;g00;g11;f01;");
            due(x.sleep(1, 1, 1, 2, 0), x.sleep(1, 1, 1, 2, 1), x.sleep(1, 9, 1, 2, 0), x.sleep(1, 9, 1, 2, 1), 1, 2, 1, 2);
        });
        String terms = "(Fractions are told in lowest terms; 0 as 0 over 1.)";
        edge(30, terms, "3 of 9 is 1 of 3, 2 of 9 stays", () -> {
            HandbagLady x = of("b095;l080;g00;");
            due(x.sleep(0, 8, 2, 3, 0), x.sleep(0, 8, 2, 3, 1), x.sleep(0, 0, 2, 3, 0), x.sleep(0, 0, 2, 3, 1), 1, 3, 2, 9);
        });
        edge(30, terms, "all is 1 over 1", () -> due(of("b595;l050;g00;").sleep(0, 5, 8, 20, 0), of("b595;l050;g00;").sleep(0, 5, 8, 20, 1), 1, 1));
        edge(30, terms, "0 is 0 over 1", () -> {
            HandbagLady x = of("b595;l050;g00;");
            due(x.sleep(0, 4, 8, 20, 0), x.sleep(0, 4, 8, 20, 1), x.sleep(0, 0, 1, 2, 0), x.sleep(0, 0, 1, 2, 1), 0, 1, 0, 1);
        });
    }

    /** She goes up to 4 when it sleeps, down to 0 when it leads: counted step by step, and brought to lowest terms. */
    private static void upAsleepDownAwake(int n, int t) {
        long[] ways = new long[5];
        ways[0] = 1;
        long all = 1;
        for (int k = 0; k < n; k++) {
            long[] next = new long[5];
            for (int v = 0; v <= 4; v++) {
                next[Math.min(v + 1, 4)] += ways[v];
                next[Math.max(v - 1, 0)] += ways[v] * (t - 1);
            }
            ways = next;
            all *= t;
        }
        HandbagLady x = of("b090;l040;g00;");
        for (int v = 0; v <= 9; v++) {
            long above = v <= 4 ? ways[v] : 0;
            long common = java.math.BigInteger.valueOf(above).gcd(java.math.BigInteger.valueOf(all)).longValue();
            due(x.sleep(0, v, n, t, 0), x.sleep(0, v, n, t, 1), above / common, all / common);
        }
    }

    private static void rowsAndJudged() {
        edge(45, "A ROW of numbers (0 .. 99; 12 at most):", "0 and 99", () -> {
            HandbagLady x = new HandbagLady();
            due(x.row(0), x.row(99), x.count(8), 1, 2, 2);
        });
        edge(45, "A ROW of numbers (0 .. 99; 12 at most):", "12, and no thirteenth", () -> {
            HandbagLady x = new HandbagLady();
            for (int k = 1; k <= 12; k++) {
                due(x.row(9), k);
            }
            refuses(x, -6, y -> y.row(9));
        });
        String judged = "JUDGED: AT of one behind 0, 1, .. HOURS: the first that is not so; -9.";
        edge(46, judged, "the first number, where she is now", () -> due(withRow(LED, 1).judge(0), withRow(LED, 9, 9).judge(0), 0, 0));
        edge(46, judged, "the last of 12", () -> due(withRow(LED, 0, 1, 2, 2, 2, 2, 2, 2, 2, 2, 2, 99).judge(0), 11));
        edge(46, judged, "the first of several", () -> due(withRow(LED, 0, 1, 3, 2, 3).judge(0), 2));
        edge(46, judged, "all 12 are so", () -> none(withRow(LED, 0, 1, 2, 2, 2, 2, 2, 2, 2, 2, 2, 2).judge(0)));
        edge(46, judged, "an empty row", () -> none(of(LED).judge(0)));
        edge(46, judged, "10 is not 0", () -> due(withRow(LED, 10).judge(0), withRow(LED, 0, 11).judge(0), 0, 1));
    }

    private static void lots() {
        String lots = "LOTS with a seed z: n weeks (1 .. 20), each from now: WANT of each BEARER (by numbers) a DRAW below 10, then 24 HOURS:";
        // Seed 0 draws 0 first, then 8.
        edge(48, lots, "1 week, 24 hours", () -> due(of("b200;l900;g00;").lots(1, 0, 1), of("b090;l000;g00;").lots(1, 0, 0), 24, 24));
        edge(48, lots, "20 weeks", () -> due(of("b090;l000;g00;").lots(20, 0, 0), of("b290;l050;g00;c5;").lots(20, 7, 0), 480, 480));
        edge(48, lots, "each from now: the second week begins where the first did", () ->
                due(of("b200;l900;g00;c8;").lots(2, 0, 1), of("b200;l900;g00;c9;").lots(2, 0, 1), of("b200;l900;g00;").lots(2, 0, 1), 23, 1, 24));
        edge(48, lots, "by numbers: the second draw is the second bearer's", () -> {
            due(of("b200;l900;l900;g01;c8;").lots(1, 0, 1), of("b200;l900;l900;g00;c8;").lots(1, 0, 1), 23, 0);
            due(of("b200;l900;l900;g01;").lots(1, 0, 1), of("b200;l900;l900;g00;").lots(1, 0, 1), 0, 24);
        });
        edge(48, lots, "in mind: wants and hour are as they were", () -> {
            HandbagLady x = of("b204;l933;g00;");
            due(x.lots(20, 7, 0), 0);
            alike(x, of("b204;l933;g00;"));
        });
        edge(48, lots, "without bearers", () -> due(new HandbagLady().lots(20, 5, 0), new HandbagLady().lots(20, 5, 1), 0, 0));
        edge(48, "how many HOURS LED of all together; SNAPS.", "of two", () ->
                due(of("b290;b090;l050;l000;g00;g11;c5;").lots(1, 0, 0), of("b200;b200;l900;l901;g00;g11;").lots(1, 0, 1), 48, 25));
        String draws = "DRAWS: z becomes z times 1103515245 plus 12345 (an int, wrapping); a DRAW below n is (z without its sign's bit, over 65536, cut) modulo n.";
        for (int z : new int[] {LEAST, -65537, -2, -1, 0, 1, 2, 65535, 1103515245, GREATEST - 1, GREATEST}) {
            edge(48, draws, "seed " + z, () -> drawnWants(z));
        }
    }

    /** With a seed, the snaps of three weeks with the colonel at each place tell where her drawn wants lead her. */
    private static void drawnWants(int seed) {
        int[] snaps = new int[10];
        java.math.BigInteger word = java.math.BigInteger.ONE.shiftLeft(32);
        java.math.BigInteger z = java.math.BigInteger.valueOf(seed);
        for (int week = 0; week < 3; week++) {
            z = z.multiply(java.math.BigInteger.valueOf(1103515245)).add(java.math.BigInteger.valueOf(12345)).mod(word);
            int want = (int) (z.longValue() % 2147483648L / 65536 % 10);
            for (int k = 1; k <= 24; k++) {
                int gone = Math.min(k, want <= 5 ? want : 10 - want);
                snaps[want <= 5 ? gone : (10 - gone) % 10]++;
            }
        }
        for (int c = 0; c <= 9; c++) {
            due(of("b200;l900;g00;c" + c + ";").lots(3, seed, 1), snaps[c]);
        }
    }
}

/** The edges that the parts III. and IV., THE IMAGE and REFUSALS name. */
final class LaterEdges extends Edges {
    // With will 0 and want 5 led to and fro between 0 and 1 by a frame: out of breath behind 9, 13 and 17 hours.
    private static final String TO_AND_FRO = "b390;l050;g00;";
    // Led to 2 by a plain bag, with will 0 and want 9, from 0.
    private static final String LED = "b052;l090;g00;";
    // Without a bag, from 0 to 4.
    private static final String FREE = "l940;";
    // Two led by frames, who are at one place behind 60 hours first, or behind 61.
    private static final String AT_SIXTY = "b326;b336;l023;l095;g00;g11;c2;";
    private static final String AT_SIXTY_ONE = "b376;b383;l109;l067;g00;g11;c8;";

    static void all() {
        whatCounts();
        latestFirst();
        whatLeavesNone();
        swap();
        heirAndStrongest();
        farAndTired();
        visitsTogetherRests();
        firstSnapAndBusy();
        tamedAndUnled();
        gathering();
        bestHabit();
        farthest();
        image();
        refusals();
    }

    private static void whatCounts() {
        String counts = "What gives(), wants(), put(), colonel() changed can be TAKEN BACK (each that is not refused counts, also if all stays as it was)";
        edge(14, counts, "each of the four", () -> {
            HandbagLady x = of("b055;l111;");
            due(x.gives(0, 0), x.count(9), x.wants(0, 7), x.count(9), x.put(0, 8), x.count(9), x.colonel(9), x.count(9), -9, 1, 1, 2, 1, 3, 0, 4);
        });
        edge(14, counts, "each of the four, if all stays as it was", () -> {
            HandbagLady x = of("b055;l111;g00;");
            due(x.gives(0, 0), x.count(9), x.wants(0, 1), x.count(9), x.put(0, 1), x.count(9), x.colonel(0), x.count(9), 0, 1, 1, 2, 1, 3, 0, 4);
        });
        edge(14, counts, "none that is refused", () -> {
            HandbagLady x = of("b055;l111;");
            due(x.colonel(3), x.gives(1, 0), x.wants(0, 10), x.put(1, 0), x.colonel(10), x.count(9), 0, -1, -1, -1, -1, 1);
            due(x.back(), x.count(3), 0, 0);
        });
        edge(14, counts, "all of a gift: who had it, what she had, how long each was held", () -> {
            HandbagLady x = of("b100;b100;l900;l900;g00;h03;g11;h04;");
            String before = look(x);
            due(x.gives(0, 1), x.bagOf(0, 5), x.back(), x.count(9), 1, 1, 0, 0);
            due(look(x).equals(before) ? 1 : 0, x.bagOf(0, 4), x.bagOf(1, 4), 1, 7, 4);
        });
        edge(14, counts, "nothing else adds to them or takes from them", () -> {
            HandbagLady x = of(LED + FREE);
            x.colonel(3);
            x.feed('c');
            x.bequest();
            x.row(0);
            x.judge(0);
            x.clear();
            x.image();
            x.hers(0);
            x.lots(1, 1, 0);
            x.given(0, 1, -1);
            due(x.count(9), x.back(), x.count(3), 1, 0, 0);
        });
    }

    private static void latestFirst() {
        String latest = "the latest first, 8 at most (older ones no more;";
        edge(14, latest, "the latest first", () -> {
            HandbagLady x = of(FREE);
            x.wants(0, 7);
            x.put(0, 8);
            x.colonel(9);
            due(x.back(), x.count(3), x.bearerOf(0, 2), x.bearerOf(0, 1), 2, 0, 8, 7);
            due(x.back(), x.count(3), x.bearerOf(0, 2), x.bearerOf(0, 1), 1, 0, 0, 7);
            due(x.back(), x.count(3), x.bearerOf(0, 2), x.bearerOf(0, 1), 0, 0, 0, 4);
        });
        edge(14, latest, "8 of 8", () -> {
            HandbagLady x = new HandbagLady();
            for (int k = 1; k <= 8; k++) {
                due(x.colonel(k), x.count(9), k - 1, k);
            }
            for (int k = 7; k >= 0; k--) {
                due(x.back(), x.count(3), k, k);
            }
            refuses(x, -3, HandbagLady::back);
        });
        edge(14, latest, "8 of 9: the oldest no more", () -> {
            HandbagLady x = new HandbagLady();
            for (int k = 1; k <= 9; k++) {
                x.colonel(k);
            }
            due(x.count(9), 8);
            for (int k = 7; k >= 0; k--) {
                due(x.back(), x.count(3), k, k + 1);
            }
            refuses(x, -3, HandbagLady::back);
        });
        edge(14, latest, "8 of 30", () -> {
            HandbagLady x = new HandbagLady();
            for (int k = 1; k <= 30; k++) {
                x.colonel(k % 10);
            }
            for (int k = 7; k >= 0; k--) {
                due(x.back(), x.count(3), k, (22 + k) % 10);
            }
            refuses(x, -3, HandbagLady::back);
        });
        edge(14, latest, "one taken back and one more of 8 are 8", () -> {
            HandbagLady x = new HandbagLady();
            for (int k = 1; k <= 8; k++) {
                x.colonel(k);
            }
            due(x.back(), x.colonel(9), x.count(9), x.back(), x.count(3), 7, 7, 8, 7, 7);
            due(x.back(), x.count(3), 6, 6);
        });
    }

    private static HandbagLady withOneToTakeBack() {
        HandbagLady x = of("b000;l000;");
        x.image();
        x.colonel(3);
        due(x.count(9), 1);
        return x;
    }

    private static void leavesNone(String title, java.util.function.ToLongFunction<HandbagLady> call, long answer) {
        edge(14, "bag(), bearer(), friends(), hours(), a BEQUEST without FAULT, restore(), where they are not refused, leave none", title, () -> {
            HandbagLady x = withOneToTakeBack();
            due(call.applyAsLong(x), x.count(9), answer, 0);
            refuses(x, -3, HandbagLady::back);
        });
    }

    private static void leavesAll(String title, java.util.function.ToLongFunction<HandbagLady> call, long answer) {
        edge(14, "bag(), bearer(), friends(), hours(), a BEQUEST without FAULT, restore(), where they are not refused, leave none", title, () -> {
            HandbagLady x = withOneToTakeBack();
            due(call.applyAsLong(x), x.count(9), x.back(), x.count(3), answer, 1, 0, 0);
        });
    }

    private static void whatLeavesNone() {
        leavesNone("bag()", x -> x.bag(0, 0, 0), 1);
        leavesNone("bearer()", x -> x.bearer(0, 0, 0), 1);
        leavesNone("friends(), of the same, too", x -> x.friends(0, 0), 0);
        leavesNone("hours()", x -> x.hours(1), 0);
        leavesNone("a bequest", x -> told(x, "c3;"), 1);
        leavesNone("restore()", HandbagLady::restore, 0);
        leavesAll("bag() refused", x -> x.bag(0, 10, 0), -6);
        leavesAll("bearer() refused", x -> x.bearer(0, -1, 0), -4);
        leavesAll("friends() refused", x -> x.friends(0, 1), -1);
        leavesAll("hours() refused", x -> x.hours(0), -4);
        leavesAll("a bequest with a fault of kind 1", x -> told(x, "c4"), -1002);
        leavesAll("a bequest with a fault of kind 2", x -> told(x, "c4;h00;"), -2003);
        edge(14, "bag(), bearer(), friends(), hours(), a BEQUEST without FAULT, restore(), where they are not refused, leave none", "restore() refused", () -> {
            HandbagLady x = of(FREE);
            due(x.colonel(3), x.restore(), x.count(9), x.back(), x.count(3), 0, -3, 1, 0, 0);
        });
    }

    private static void swap() {
        String swap = "SWAP: the two BEARERS (10 the lesser and the other) who, changing BAGS (or none; HELD of these 0), make HOURS LED of all together"
                + " in n HOURS fewest, fewer than now; of several the first; -9.";
        edge(31, swap, "0 and 1 are 1, 3 and 4 are 34", () ->
                due(of("b050;l200;l600;g00;").swap(9), of("b050;l000;l000;l000;l200;l600;g03;").swap(9), of("b050;l000;l000;l000;l600;l200;g04;").swap(9), 1, 34, 34));
        edge(31, swap, "with one who has none", () -> due(of("b050;b090;l200;l900;g00;").swap(1), 1));
        edge(31, swap, "as few as now is not fewer", () -> none(of("b050;b050;l200;l200;g00;g11;").swap(60), of("b050;l200;l400;g00;").swap(60)));
        edge(31, swap, "one hour fewer is", () -> due(of("b150;l400;l500;g00;").swap(5), of("b150;l400;l400;g00;").swap(5), 1, -9));
        edge(31, swap, "of several the first", () -> due(of("b050;l000;l900;l900;g00;").swap(9), of("b050;l900;l900;l000;l700;g02;").swap(9), 1, 2));
        edge(31, swap, "fewest: a later one, if it is fewer", () -> due(of("b150;l000;l600;l900;g00;").swap(9), 2));
        edge(31, swap, "held of these 0", () -> due(of("b150;l700;l800;g00;h05;").swap(3), of("b150;l700;l700;g00;h05;").swap(3), of("b150;l700;l500;g00;h05;").swap(1), 1, 1, 1));
        edge(31, swap, "held of these 0: of the one that goes to the lesser, too", () ->
                due(of("b150;l800;l700;g01;h05;").swap(3), of("b150;b130;l700;l600;g00;g11;h05;").swap(1), 1, 1));
        edge(31, swap, "held of the others as it is", () -> none(of("b150;l000;l000;l700;g02;h05;").swap(2)));
        edge(31, swap, "a pair's friend has another bearer then: who follows her is out of breath behind 9 hours", () -> {
            HandbagLady x = of("b314;b490;l874;l249;g00;g11;f01;");
            due(x.swap(9), x.swap(10), x.swap(15), -9, 1, 1);
        });
        edge(31, swap, "none in 0 hours", () -> none(of("b050;l200;l600;g00;").swap(0)));
        edge(31, swap, "none of one or of nobody", () -> none(of("b050;l200;g00;").swap(60), new HandbagLady().swap(60)));
        edge(31, swap, "in mind: all have what they had", () -> {
            HandbagLady x = of("b150;l700;l800;g00;h05;");
            due(x.swap(3), 1);
            alike(x, of("b150;l700;l800;g00;h05;"));
        });
    }

    private static void heirAndStrongest() {
        String heir = "HEIR: the BEARER without a BAG with the greatest WILL, of several the least; -9.";
        edge(32, heir, "of several the least", () -> due(of("b000;l900;l700;l700;g00;").heir(0), of("l000;l900;l900;").heir(0), 1, 1));
        edge(32, heir, "the first, if her will is the greatest", () -> due(of("l900;l100;").heir(0), of("l500;l400;l300;l200;l100;").heir(0), 0, 0));
        edge(32, heir, "will 0 is one", () -> due(of("l000;").heir(0), of("b000;l900;l000;l000;g00;").heir(0), 0, 1));
        edge(32, heir, "all have one", () -> none(of("b000;l900;g00;").heir(0)));
        edge(32, heir, "there is nobody", () -> none(new HandbagLady().heir(0)));
        String strongest = "STRONGEST: the BAG with the most PULL, of several the least; -9.";
        edge(32, strongest, "of several the least", () -> due(of("b030;b050;b050;b210;").heir(1), 1));
        edge(32, strongest, "pull 0 is one", () -> due(of("b000;").heir(1), of("b310;b000;").heir(1), 0, 0));
        edge(32, strongest, "the pull of now: held, and with a friend", () -> {
            due(of("b080;b150;l900;g10;h03;").heir(1), of("b080;b150;l900;g10;h04;").heir(1), 0, 1);
            due(of("b080;b470;b000;l900;f12;").heir(1), of("b080;b470;b000;l900;f12;g20;").heir(1), 0, 1);
        });
        edge(32, strongest, "there are none", () -> none(new HandbagLady().heir(1), of(FREE).heir(1)));
    }

    private static void farAndTired() {
        String far = "FAR: how many PLACES apart two BEARERS are, the shorter way.";
        edge(33, far, "5 is the most, whichever way", () -> due(of("l000;l005;").far(0, 1), of("l009;l004;").far(0, 1), of("l009;l004;").far(1, 0), 5, 5, 5));
        edge(33, far, "round over 0", () -> due(of("l000;l009;").far(0, 1), of("l000;l009;").far(1, 0), of("l001;l007;").far(0, 1), 1, 1, 4));
        edge(33, far, "at one place 0", () -> due(of("l009;l009;").far(0, 1), 0));
        String tired = "TIRED: all BREATH together behind n HOURS.";
        edge(34, tired, "behind 0 hours, of five the most", () -> due(of(FREE.repeat(5)).tired(0), of(LED + "h01;").tired(0), 45, 8));
        edge(34, tired, "behind 60 hours", () -> due(of(LED + FREE).tired(60), 16));
        edge(34, tired, "out of breath and of nobody 0", () -> due(of(TO_AND_FRO).tired(9), new HandbagLady().tired(60), 0, 0));
    }

    private static void visitsTogetherRests() {
        String visits = "VISITS: behind how many of 1 .. n HOURS one is AT a PLACE;";
        edge(35, visits, "of 0 hours none, though she is there", () -> due(of("l900;").visits(0, 0, 0), 0));
        edge(35, visits, "behind 0 does not count", () -> due(of(FREE).visits(0, 0, 60), of("l900;").visits(0, 0, 1), 0, 1));
        edge(35, visits, "behind the n-th does", () -> due(of(FREE).visits(0, 4, 3), of(FREE).visits(0, 4, 4), 0, 1));
        edge(35, visits, "60 of 60", () -> due(of("l900;").visits(0, 0, 60), of("l999;").visits(0, 9, 60), 60, 60));
        String together = "TOGETHER: behind how many of these two are AT one PLACE;";
        edge(36, together, "of 0 hours none, though they are", () -> due(of("l900;l900;").together(0, 1, 0), 0));
        edge(36, together, "behind 0 does not count, behind the n-th does", () ->
                due(of("l900;l950;").together(0, 1, 60), of("l940;l949;").together(0, 1, 4), of("l940;l949;").together(0, 1, 5), 0, 0, 1));
        edge(36, together, "60 of 60", () -> due(of("l900;l900;").together(0, 1, 60), 60));
        String rests = "RESTS: in how many of these HOURS she rests.";
        edge(37, rests, "of 0 hours none, though she is out of breath", () -> due(of(TO_AND_FRO + "h09;").rests(0, 0), of(TO_AND_FRO + "h09;").rests(0, 1), 0, 1));
        edge(37, rests, "the n-th hour counts", () -> due(of(TO_AND_FRO).rests(0, 9), of(TO_AND_FRO).rests(0, 10), of(TO_AND_FRO).rests(0, 14), 0, 1, 2));
        edge(37, rests, "of 60 hours", () -> due(of(FREE).rests(0, 60), of("b390;l010;g00;").rests(0, 60), 0, 11));
    }

    private static void firstSnapAndBusy() {
        String first = "FIRST SNAP: the first HOUR (1 .. 60 from now) with a SNAP; -9.";
        edge(38, first, "1 is the least, though she is there now", () -> due(of("b200;l900;g00;").firstSnap(), of("b200;l900;g00;h60;").firstSnap(), 1, 1));
        edge(38, first, "behind 2 hours: the first of many", () -> due(of("b204;l902;g00;").firstSnap(), 2));
        edge(38, first, "she leaves his place, and never comes again", () -> none(of("b290;l000;g00;").firstSnap()));
        edge(38, first, "never without a crocodile, a bearer", () -> none(of("b000;l900;g00;").firstSnap(), of("b200;l900;").firstSnap(), new HandbagLady().firstSnap()));
        String busy = "BUSY: the PLACE AT which BEARERS are most often behind 0 .. n HOURS (each counted), of several the least; how often.";
        edge(39, busy, "behind 0 alone", () -> due(of("l955;l955;l900;").busy(0, 0), of("l955;l955;l900;").busy(0, 1), 5, 2));
        edge(39, busy, "behind 0 and behind the n-th count, too", () -> due(of("l955;").busy(60, 0), of("l955;").busy(60, 1), of("l954;").busy(2, 0), of("l954;").busy(2, 1), 5, 61, 5, 2));
        edge(39, busy, "each counted: 5 in 61 hours", () -> due(of("l999;".repeat(5)).busy(60, 0), of("l999;".repeat(5)).busy(60, 1), 9, 305));
        edge(39, busy, "of several the least", () -> due(of("l997;l993;l995;").busy(0, 0), of("l990;").busy(1, 0), of(FREE).busy(3, 0), of(FREE).busy(3, 1), 3, 0, 0, 1));
        edge(39, busy, "without bearers 0, at 0", () -> due(new HandbagLady().busy(60, 0), new HandbagLady().busy(60, 1), 0, 0));
    }

    private static void tamedAndUnled() {
        String tamed = "TAMED: the greatest FIGURE (0 .. 9) of a BAG with which she who has it is not LED now; -9 none, nobody has it.";
        edge(40, tamed, "9, the greatest", () -> due(of("b000;l900;g00;").tamed(0), of("b300;l400;g00;").tamed(0), of("b300;l900;g00;").tamed(0), 9, 9, 9));
        edge(40, tamed, "0, the least", () -> due(of("b050;l000;g00;").tamed(0), of("b290;l400;g00;").tamed(0), of("b190;l200;g00;h02;").tamed(0), 0, 0, 0));
        edge(40, tamed, "as great a pull as her will is not led", () -> due(of("b090;l300;g00;").tamed(0), of("b590;l600;g00;").tamed(0), of("b590;l700;g00;").tamed(0), 3, 3, 3));
        edge(40, tamed, "none: led by figure 0, too", () -> none(of("b290;l300;g00;").tamed(0), of("b190;l200;g00;h03;").tamed(0), of("b490;b000;l100;l000;g00;g11;f01;").tamed(0)));
        edge(40, tamed, "nobody has it", () -> none(of("b000;").tamed(0), of("b000;b000;l900;g10;").tamed(0)));
        edge(40, tamed, "in mind: its figure stays", () -> {
            HandbagLady x = of("b090;l300;g00;");
            due(x.tamed(0), 3);
            alike(x, of("b090;l300;g00;"));
        });
        String unled = "UNLED: the most BEARERS who can have a BAG, each another one, whose PULL (HELD 0, no FRIENDS) is not above their WILL.";
        edge(41, unled, "not above: as great is enough, one more is not", () -> due(of("b050;l500;").unled(), of("b050;l400;").unled(), 1, 0));
        edge(41, unled, "each another one: two can't have one bag", () -> due(of("b000;l900;l900;").unled(), of("b000;b000;b000;l900;").unled(), 1, 1));
        edge(41, unled, "held 0, no friends", () -> {
            due(of("b150;l500;g00;h60;").unled(), of("b450;b090;l500;l000;g11;f01;").unled(), 1, 1);
            due(of("b150;l400;g00;h60;").unled(), of("b450;b090;l400;l000;g11;f01;").unled(), of("b510;l100;").unled(), of("b510;l200;").unled(), 0, 0, 0, 1);
        });
        edge(41, unled, "all five, each by just as much", () -> due(of("b050;b040;b030;b020;b010;b000;l000;l100;l200;l300;l400;").unled(), 5));
        edge(41, unled, "the most: she with the great will leaves the small pull", () -> due(of("b050;b030;l500;l300;").unled(), of("b030;b050;l300;l500;").unled(), 2, 2));
        edge(41, unled, "a pull that is too great for all is left aside", () -> due(of("b290;b050;l900;l500;").unled(), of("b050;b290;l500;l900;").unled(), 1, 1));
        edge(41, unled, "a will that is too small for all is left aside", () -> due(of("b050;b060;l000;l500;l600;").unled(), of("b010;l000;l000;l000;l100;").unled(), 2, 1));
        edge(41, unled, "without bags, bearers or both 0", () -> due(of(FREE).unled(), of("b000;").unled(), new HandbagLady().unled(), 0, 0, 0));
    }

    private static void gathering() {
        String all = "GATHERING: the first n (0 .. 60) behind which all are AT one PLACE (0 without BEARERS); -9.";
        edge(42, all, "0: they are now", () -> due(of("l955;l945;l935;").gathering(), 0));
        edge(42, all, "0 without bearers", () -> due(new HandbagLady().gathering(), 0));
        edge(42, all, "0 of one", () -> due(of(FREE).gathering(), 0));
        edge(42, all, "60 is the last", () -> due(of(AT_SIXTY).gathering(), 60));
        edge(42, all, "61 is too late", () -> {
            HandbagLady x = of(AT_SIXTY_ONE);
            due(x.gathering(), x.hours(1), x.gathering(), -9, 0, 60);
        });
        edge(42, all, "never: all but the last, all but the first", () -> none(of("l955;l955;l944;").gathering(), of("l944;l955;l955;").gathering(), of("l900;l911;").gathering()));
        edge(42, all, "two meet sooner, all behind 5 hours", () -> due(of("l940;l949;l942;").gathering(), of("l440;l449;l446;").gathering(), 5, 5));
    }

    private static void bestHabit() {
        String best = "BEST HABIT of a BAG: that (0 .. 9) by which she who has it is AT a PLACE soonest (0 .. 60), of several the least; -9 never, nobody has it.";
        edge(43, best, "0 hours: she is there, by all of them: 0", () -> due(of("b055;l553;g00;").bestHabit(0, 3), of("b095;l053;g00;").bestHabit(0, 3), 0, 0));
        edge(43, best, "of several the least: 1 up by 1 .. 5, 1 down by 6 .. 9", () -> due(of("b053;l090;g00;").bestHabit(0, 1), of("b053;l000;g00;").bestHabit(0, 9), 1, 6));
        edge(43, best, "9 is looked at, too: by it alone", () -> due(of("b053;l094;g00;").bestHabit(0, 9), 9));
        edge(43, best, "0 is looked at, too: by it alone", () -> due(of("b053;l055;g00;").bestHabit(0, 0), of("b053;l045;g00;").bestHabit(0, 0), 0, 0));
        edge(43, best, "sooner by one hour is sooner", () -> due(of("b390;l030;g00;").bestHabit(0, 2), 2));
        edge(43, best, "behind 58 hours, by all alike: 0", () -> {
            HandbagLady x = of("b425;b347;l140;l126;g00;g11;f10;");
            due(x.bestHabit(0, 1), x.visits(0, 1, 57), x.visits(0, 1, 58), 0, 0, 1);
        });
        edge(43, best, "never: a crocodile's goal is no habit", () -> none(of("b204;l000;g00;").bestHabit(0, 7)));
        edge(43, best, "nobody has it", () -> none(of("b053;l090;").bestHabit(0, 0), of("b053;b053;l090;g10;").bestHabit(0, 0)));
        edge(43, best, "in mind: its habit stays", () -> {
            HandbagLady x = of("b053;l090;g00;");
            due(x.bestHabit(0, 4), 4);
            alike(x, of("b053;l090;g00;"));
        });
    }

    private static void farthest() {
        String far = "FARTHEST: behind n HOURS the two (10 the lesser and the other) who are farthest apart, of several the first; how far; -9 fewer than two.";
        edge(44, far, "0 and 1 are 1, 3 and 4 are 34", () -> {
            due(of("l900;l905;").farthest(0, 0), of("l900;l905;").farthest(0, 1), 1, 5);
            HandbagLady x = of("l900;l900;l900;l909;l902;");
            due(x.farthest(0, 0), x.farthest(0, 1), 34, 3);
        });
        edge(44, far, "of several the first", () -> due(of("l902;l903;l904;l908;").farthest(0, 0), of("l900;l905;l900;l905;").farthest(0, 0), 13, 1));
        edge(44, far, "all at one place: the first two, 0 apart", () -> due(of("l900;l900;l900;").farthest(0, 0), of("l900;l900;l900;").farthest(0, 1), 1, 0));
        edge(44, far, "behind 60 hours", () -> due(of("l900;l900;l940;").farthest(60, 0), of("l900;l900;l940;").farthest(60, 1), 2, 4));
        edge(44, far, "one alone", () -> none(of(FREE).farthest(0, 0), of(FREE).farthest(60, 1)));
        edge(44, far, "nobody", () -> none(new HandbagLady().farthest(0, 0), new HandbagLady().farthest(60, 1)));
    }

    private static void image() {
        String image = "THE IMAGE: all that there is of I, but it, letters, the ROW, REFUSALS.";
        edge(50, image, "bags, bearers, colonel and hour are as they were", () -> {
            String before = "b153;b400;l094;l940;g00;g11;f01;c3;h07;";
            HandbagLady x = of(before);
            due(x.image(), 7);
            due(told(x, "b000;l000;f00;g01;c9;h08;"), x.wants(0, 0), x.put(1, 9), x.restore(), 6, 9, 3, 7);
            alike(x, of(before));
        });
        edge(50, image, "of a new object: nothing is there again", () -> {
            HandbagLady x = new HandbagLady();
            due(x.image(), told(x, "b153;l094;g00;c3;h07;"), x.restore(), 0, 5, 0);
            alike(x, new HandbagLady());
        });
        edge(50, image, "letters stay", () -> {
            HandbagLady x = new HandbagLady();
            x.feed('c');
            x.image();
            x.feed('7');
            due(x.restore(), x.count(7), x.feed(';'), x.bequest(), x.count(3), 0, 2, 3, 1, 7);
        });
        edge(50, image, "the row stays", () -> {
            HandbagLady x = of(FREE);
            x.row(0);
            x.image();
            x.row(2);
            due(x.restore(), x.count(8), x.judge(0), 0, 2, 1);
            x.row(0);
            due(x.restore(), x.count(8), 0, 1);
        });
        edge(50, image, "refusals stay", () -> {
            HandbagLady x = new HandbagLady();
            x.colonel(10);
            x.image();
            due(x.colonel(10), x.back(), x.restore(), x.count(11), x.count(13), -1, -3, 0, 2, 1);
        });
        edge(50, image, "it stays itself: restored twice", () -> {
            HandbagLady x = of("c4;h05;");
            due(x.image(), x.colonel(5), x.hours(9), x.restore(), x.count(3), 5, 4, 0, 5, 4);
            due(x.colonel(6), x.hours(9), x.restore(), x.count(3), x.count(2), 4, 0, 5, 4, 5);
        });
        edge(49, image, "a later one is instead of it", () -> {
            HandbagLady x = of("h05;");
            due(x.image(), x.hours(9), x.image(), x.hours(9), x.restore(), x.count(2), 5, 0, 14, 0, 14, 14);
        });
        edge(49, image, "taking it changes nothing", () -> {
            HandbagLady x = of(LED + "h01;");
            due(x.colonel(3), x.image(), x.count(9), x.back(), 0, 1, 1, 0);
            alike(x, of(LED + "h01;"));
        });
    }

    private static void refusals() {
        String nothing = "nothing changes but how many there were";
        edge(51, nothing, "each number is counted by itself", () -> {
            HandbagLady x = of(LED);
            due(x.colonel(10), x.colonel(-1), x.bagOf(0, 7), x.back(), x.hours(0), x.hours(61), x.feed(256), x.tired(-1), x.row(-1),
                    -1, -1, -2, -3, -4, -6, -6, -4, -4);
            due(x.count(11), x.count(12), x.count(13), x.count(14), x.count(15), x.count(16), 2, 1, 1, 3, 0, 2);
        });
        edge(51, nothing, "-9, a fault and 0 are no refusals", () -> {
            HandbagLady x = of(FREE);
            due(x.firstSnap(), x.stable(0), x.heir(1), x.bequest(), x.judge(0), x.count(10), x.clear(), -9, -9, -9, -1000, -9, -9, 0);
            for (int what = 11; what <= 16; what++) {
                due(x.count(what), 0);
            }
        });
        edge(51, nothing, "the image, letters and the row, too, are as they were", () -> {
            HandbagLady x = of(FREE);
            x.image();
            x.feed('c');
            x.row(0);
            due(x.feed(256), x.row(100), x.colonel(10), x.judge(1), x.hours(61), -6, -6, -1, -1, -6);
            due(x.feed('3'), x.feed(';'), x.bequest(), x.row(2), x.judge(0), 2, 3, 1, 2, 1);
            due(x.restore(), x.count(3), 0, 0);
        });
        edge(30, "Of longs 4000000000000000000 less them (-1 as 4000000000000000001).", "each of the four that are told there", () -> {
            HandbagLady x = of(FREE);
            due(x.sleep(1, 0, 0, 2, 0), x.sleep(0, 0, 0, 2, 2), x.sleep(0, 0, 0, 1, 0), x.sleep(0, 0, 0, 21, 0),
                    4000000000000000001L, 4000000000000000002L, 4000000000000000004L, 4000000000000000006L);
            due(x.count(11), x.count(12), x.count(14), x.count(16), 1, 1, 1, 1);
        });
        String order = "REFUSALS (the call answers the number, the first that fits in the order in which it tells them;";
        edge(51, order, "four that fit at once, then three, two and one", () -> {
            HandbagLady x = of(FREE);
            due(x.sleep(1, 10, -1, 21, 2), x.sleep(0, 0, -1, 21, 2), x.sleep(0, 0, 8, 21, 2), x.sleep(0, 0, 8, 20, 2), x.sleep(0, 0, 8, 20, 1),
                    LONG_REFUSAL + 1, LONG_REFUSAL + 4, LONG_REFUSAL + 6, LONG_REFUSAL + 2, 1);
            due(x.count(11), x.count(12), x.count(13), x.count(14), x.count(16), 1, 1, 0, 1, 1);
        });
        String nobody = "-1 NOBODY: no such BAG, BEARER, PLACE, one twice.";
        refused(9, nobody, "no such bag", -1, "b000;", x -> x.friends(0, 1));
        refused(8, nobody, "no such bearer", -1, "b000;l000;", x -> x.gives(0, 1));
        refused(12, nobody, "no such place", -1, "", x -> x.colonel(10), x -> x.colonel(-1));
        refused(16, nobody, "one twice", -1, "l000;", x -> x.meet(0, 0));
        refused(4, "-2 OTHER: what, KIND.", "what", -2, "b000;", x -> x.bagOf(0, 7), x -> x.bagOf(0, -1));
        refused(6, "-2 OTHER: what, KIND.", "a kind", -2, "", x -> x.bag(6, 0, 0), x -> x.bag(-1, 0, 0));
        edge(50, "-3 STATE: it is not as told.", "no image", () -> refuses(of(FREE), -3, HandbagLady::restore));
        refused(13, "-4 BELOW: a number below the least.", "0 hours", -4, FREE, x -> x.hours(0));
        refused(13, "-6 ROOM: a number above the greatest, no room.", "61 hours", -6, FREE, x -> x.hours(61));
        refused(7, "-6 ROOM: a number above the greatest, no room.", "no room for one more", -6, FREE.repeat(5), x -> x.bearer(0, 0, 0));
    }
}

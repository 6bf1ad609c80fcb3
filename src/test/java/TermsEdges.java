/** The edges that "Terms" names: the street, the bags, the bearers, an hour, a bequest. */
final class TermsEdges extends Edges {
    // With will 0 and want 5 led to and fro between 0 and 1 by a frame: out of breath behind 9 hours.
    private static final String TO_AND_FRO = "b390;l050;g00;";

    static void all() {
        places();
        bagsThereAre();
        bearersThereAre();
        pulls();
        goals();
        paces();
        led();
        hourOfHers();
        heldAndSnaps();
        lettersOfABequest();
        statementsOfABequest();
        faults();
    }

    private static int at(String letters) {
        return of(letters).bearerOf(0, 2);
    }

    private static int breath(String letters) {
        return of(letters).bearerOf(0, 4);
    }

    private static int pull(String letters) {
        return of(letters).bagOf(0, 6);
    }

    private static int isLed(String letters) {
        return of(letters).bearerOf(0, 5);
    }

    private static void places() {
        String round = "PLACES 0 .. 9 go round (behind 9 comes 0).";
        edge(13, round, "to her want, up from 9", () -> due(at("l909;h01;"), 0));
        edge(13, round, "to her want, down from 0", () -> due(at("l990;h01;"), 9));
        edge(13, round, "led, up from 9", () -> due(at("b091;l059;g00;h01;"), 0));
        edge(13, round, "led, down from 0", () -> due(at("b098;l050;g00;h01;"), 9));
        edge(13, round, "led two places an hour, up from 9", () -> due(at("b592;l059;g00;h01;"), 1));
        edge(13, round, "led two places an hour, down from 0", () -> due(at("b597;l050;g00;h01;"), 8));
        edge(13, round, "each of 0 .. 9 and again, two hours at each", () -> {
            HandbagLady x = of("l900;");
            for (int k = 1; k <= 20; k++) {
                x.wants(0, k % 10);
                x.hours(1);
                due(x.bearerOf(0, 2), k % 10);
            }
        });
        edge(12, round, "the colonel at 0 and at 9, the least and the greatest", () -> {
            HandbagLady x = new HandbagLady();
            due(x.colonel(9), x.count(3), x.colonel(0), x.count(3), 0, 9, 9, 0);
        });
        edge(1, "The COLONEL stands at one (0 at first).", "a new object", () -> due(new HandbagLady().count(3), 0));
        edge(1, "HOUR (0 .. 999; 0 at first).", "a new object", () -> due(new HandbagLady().count(2), 0));
        edge(13, "HOUR (0 .. 999; 0 at first).", "999 is reached", () -> {
            HandbagLady x = atHour999();
            due(x.count(2), 999);
        });
        edge(2, "An object is used for at most 512 calls after it has been made; what later calls answer is free.",
                "the 512th answers as the first", () -> {
            HandbagLady x = new HandbagLady();
            for (int k = 1; k <= 511; k++) {
                x.colonel(k % 10);
            }
            due(x.colonel(7), 1);
        });
    }

    private static HandbagLady atHour999() {
        HandbagLady x = new HandbagLady();
        for (int k = 0; k < 16; k++) {
            x.hours(60);
        }
        due(x.hours(39), 0);
        return x;
    }

    private static void bagsThereAre() {
        edge(6, "BAGS 0 .. 5 as they come (6 at most)", "six, told 0 to 5 as they come", () -> {
            HandbagLady x = new HandbagLady();
            for (int b = 0; b <= 5; b++) {
                due(x.bag(5 - b, b, b), b);
                due(x.bagOf(b, 0), x.bagOf(b, 1), x.count(0), 5 - b, b, b + 1);
            }
        });
        edge(6, "BAGS 0 .. 5 as they come (6 at most)", "a seventh is not taken", () -> {
            HandbagLady x = of("b000;b000;b000;b000;b000;b000;");
            refuses(x, -6, y -> y.bag(0, 0, 0));
        });
        edge(6, "of KINDS: 0 BAG; 1 WIDOW's under BAG; 2 CROCODILE under BAG; 3 FRAME under BAG; 4 PAIR under BAG; 5 OLD under WIDOW's",
                "0 is the least, 5 the greatest", () -> {
            HandbagLady x = new HandbagLady();
            due(x.bag(0, 0, 0), x.bag(5, 0, 0), x.bagOf(0, 0), x.bagOf(1, 0), 0, 1, 0, 5);
        });
        edge(6, "a FIGURE (0 .. 9)", "0 and 9", () -> {
            HandbagLady x = new HandbagLady();
            due(x.bag(0, 0, 5), x.bag(0, 9, 5), x.bagOf(0, 1), x.bagOf(1, 1), 0, 1, 0, 9);
        });
        edge(6, "a HABIT (a PLACE)", "0 and 9", () -> {
            HandbagLady x = new HandbagLady();
            due(x.bag(0, 5, 0), x.bag(0, 5, 9), x.bagOf(0, 2), x.bagOf(1, 2), 0, 1, 0, 9);
        });
        edge(4, "a FRIEND (another BAG or none: none at first)", "none at first", () -> {
            HandbagLady x = of("b000;b499;");
            due(x.bagOf(0, 3), x.bagOf(1, 3), -9, -9);
        });
        edge(4, "HELD (HOURS its bearer has had it, 0 .. 99; 0 at first)", "0 at first", () -> due(of("b100;").bagOf(0, 4), 0));
        edge(4, "HELD (HOURS its bearer has had it, 0 .. 99; 0 at first)", "0 at first of one that comes where an image had none", () -> {
            HandbagLady x = new HandbagLady();
            x.image();
            due(told(x, "b100;b000;l900;g00;f01;h07;"), x.restore(), x.bag(1, 0, 0), x.bagOf(0, 3), x.bagOf(0, 4), x.bagOf(0, 5), 6, 0, 0, -9, 0, -9);
        });
        edge(4, "HELD (HOURS its bearer has had it, 0 .. 99; 0 at first)", "0 when it is given, 1 behind an hour", () -> {
            HandbagLady x = of("b100;l900;h07;g00;");
            due(x.bagOf(0, 4), x.hours(1), x.bagOf(0, 4), 0, 0, 1);
        });
        edge(4, "HELD (HOURS its bearer has had it, 0 .. 99; 0 at first)", "98, 99 and never more", () -> {
            HandbagLady x = of("b100;l900;g00;h60;h38;");
            due(x.bagOf(0, 4), x.hours(1), x.bagOf(0, 4), x.hours(1), x.bagOf(0, 4), 98, 0, 99, 0, 99);
            due(x.hours(60), x.bagOf(0, 4), 0, 99);
        });
    }

    private static void bearersThereAre() {
        edge(7, "BEARERS 0 .. 4 as they come (5 at most)", "five, told 0 to 4 as they come", () -> {
            HandbagLady x = new HandbagLady();
            for (int l = 0; l <= 4; l++) {
                due(x.bearer(l, 9 - l, l + 5), x.bearerOf(l, 0), x.bearerOf(l, 1), x.bearerOf(l, 2), x.count(1), l, l, 9 - l, l + 5, l + 1);
            }
        });
        edge(7, "BEARERS 0 .. 4 as they come (5 at most)", "a sixth is not taken", () -> {
            HandbagLady x = of("l000;l000;l000;l000;l000;");
            refuses(x, -6, y -> y.bearer(0, 0, 0));
        });
        edge(7, "a WILL (0 .. 9)", "0 and 9", () -> {
            HandbagLady x = new HandbagLady();
            due(x.bearer(0, 5, 5), x.bearer(9, 5, 5), x.bearerOf(0, 0), x.bearerOf(1, 0), 0, 1, 0, 9);
        });
        edge(7, "a WANT (a PLACE)", "0 and 9", () -> {
            HandbagLady x = new HandbagLady();
            due(x.bearer(5, 0, 5), x.bearer(5, 9, 5), x.bearerOf(0, 1), x.bearerOf(1, 1), 0, 1, 0, 9);
        });
        edge(7, "AT a PLACE (0 at first)", "0 and 9", () -> {
            HandbagLady x = new HandbagLady();
            due(x.bearer(5, 5, 0), x.bearer(5, 5, 9), x.bearerOf(0, 2), x.bearerOf(1, 2), 0, 1, 0, 9);
        });
        edge(5, "a BAG or none (none at first)", "none at first, though there are bags", () -> due(of("b000;l000;").bearerOf(0, 3), -9));
        edge(5, "BREATH (0 .. 9; 9 at first)", "9 at first", () -> due(of("l000;").bearerOf(0, 4), 9));
        edge(5, "BREATH (0 .. 9; 9 at first)", "9 and 0 are reached, none beyond", () -> {
            HandbagLady x = of(TO_AND_FRO);
            for (int k = 8; k >= 0; k--) {
                due(x.hours(1), x.bearerOf(0, 4), 0, k);
            }
            due(x.hours(1), x.bearerOf(0, 4), 0, 3);
        });
    }

    private static void pulls() {
        edge(4, "PULL of a BAG: BAG FIGURE;", "figures 0 and 9, however long it is held", () ->
                due(pull("b000;"), pull("b090;"), pull("b090;l900;g00;h60;h60;"), 0, 9, 9));
        edge(4, "WIDOW's HELD more;", "held 0: its figure", () -> due(pull("b100;"), pull("b190;"), 0, 9));
        edge(4, "WIDOW's HELD more;", "held 99, the most", () -> due(pull("b190;l900;g00;h60;h39;"), pull("b190;l900;g00;h60;h60;"), 108, 108));
        edge(4, "CROCODILE 4 more;", "figure 0 and figure 9, above which it goes", () -> due(pull("b200;"), pull("b290;"), 4, 13));
        edge(4, "FRAME half of a BAG's, cut;", "0, 1, 8 and 9", () ->
                due(pull("b300;"), pull("b310;"), pull("b380;"), pull("b390;"), 0, 0, 4, 4));
        edge(4, "PAIR 2 more, if somebody has its FRIEND;", "it has no friend", () -> due(pull("b490;l900;g00;"), 9));
        edge(4, "PAIR 2 more, if somebody has its FRIEND;", "nobody has its friend", () -> due(pull("b490;b000;l900;g00;f01;"), 9));
        edge(4, "PAIR 2 more, if somebody has its FRIEND;", "somebody has it, though nobody the pair", () ->
                due(pull("b490;b000;l900;g10;f01;"), pull("b400;b000;l900;g10;f01;"), 11, 2));
        edge(4, "PAIR 2 more, if somebody has its FRIEND;", "only a pair's, not its friend's that is a plain bag", () ->
                due(of("b490;b000;l900;g00;f01;").bagOf(1, 6), of("b490;b400;l900;g00;f01;").bagOf(1, 6), 0, 2));
        edge(4, "OLD twice a WIDOW's.", "held 0: twice its figure", () -> due(pull("b500;"), pull("b590;"), 0, 18));
        edge(4, "OLD twice a WIDOW's.", "held 99, the most", () -> due(pull("b590;l900;g00;h60;h60;"), 216));
    }

    private static void goals() {
        edge(13, "GOAL: BAG its HABIT;", "0 and 9", () -> due(at("b090;l058;g00;h04;"), at("b099;l051;g00;h04;"), 0, 9));
        edge(13, "CROCODILE the PLACE 5 on from the COLONEL;", "round from each place of his", () -> {
            for (int c = 0; c <= 9; c++) {
                due(at("b293;l000;g00;c" + c + ";h05;"), (c + 5) % 10);
            }
        });
        edge(13, "FRAME its HABIT in an even HOUR, else the WANT of its bearer;", "the first hour is odd, the second even", () ->
                due(at("b394;l080;g00;h01;"), at("b394;l080;g00;h02;"), 9, 0));
        edge(13, "FRAME its HABIT in an even HOUR, else the WANT of its bearer;", "from an odd hour the next is even", () ->
                due(at("h01;b394;l080;g00;h01;"), at("h01;b394;l080;g00;h02;"), 1, 0));
        edge(13, "PAIR the PLACE AT which the bearer of its FRIEND is, if somebody has it, else its HABIT;", "somebody has it", () ->
                due(at("b498;b000;l000;l933;g00;g11;f01;h03;"), 3));
        edge(13, "PAIR the PLACE AT which the bearer of its FRIEND is, if somebody has it, else its HABIT;", "nobody has it", () ->
                due(at("b498;b000;l000;l933;g00;f01;h03;"), 8));
        edge(13, "PAIR the PLACE AT which the bearer of its FRIEND is, if somebody has it, else its HABIT;", "it has no friend", () ->
                due(at("b498;b000;l000;l933;g00;g11;h03;"), 8));
        edge(13, "others as what they are under.", "a widow's and an old one's goal is the habit", () ->
                due(at("b198;l000;g00;h03;"), at("b598;l000;g00;h03;"), 8, 8));
    }

    private static void paces() {
        edge(13, "PACE (PLACES an HOUR): BAG 1; OLD 2; others as what they are under.", "an old one 2", () ->
                due(at("b595;l052;g00;h01;"), breath("b595;l052;g00;h01;"), 4, 7));
        edge(13, "PACE (PLACES an HOUR): BAG 1; OLD 2; others as what they are under.", "all others 1", () -> {
            for (int kind = 0; kind <= 4; kind++) {
                due(at("b" + kind + "95;l052;g00;h01;"), breath("b" + kind + "95;l052;g00;h01;"), 3, 8);
            }
        });
    }

    private static void led() {
        String above = "A BEARER is LED, if she has a BAG whose PULL is above her WILL.";
        edge(5, above, "as great as her will is not above", () -> due(isLed("b050;l500;g00;"), isLed("b000;l000;g00;"), isLed("b090;l900;g00;"), 0, 0, 0));
        edge(5, above, "one more is", () -> due(isLed("b050;l400;g00;"), isLed("b010;l000;g00;"), isLed("b260;l900;g00;"), 1, 1, 1));
        edge(5, above, "one less is not", () -> due(isLed("b040;l500;g00;"), isLed("b250;l900;g00;"), 0, 0));
        edge(5, above, "without a bag never", () -> due(isLed("b090;l000;"), isLed("b090;l000;l000;g01;"), 0, 0));
        edge(5, above, "out of breath, too", () -> due(breath(TO_AND_FRO + "h09;"), isLed(TO_AND_FRO + "h09;"), 0, 1));
        edge(13, above, "not led by as great a pull she goes to her want", () ->
                due(at("b052;l580;g00;h01;"), at("b052;l480;g00;h01;"), 9, 1));
    }

    private static void hourOfHers() {
        edge(13, "An HOUR: HOUR is 1 more;", "0 to 1, 998 to 999, and without bearers", () -> {
            HandbagLady x = new HandbagLady();
            due(x.hours(1), x.count(2), x.hours(60), x.count(2), 0, 1, 0, 61);
            HandbagLady y = of("h60;".repeat(16) + "h38;");
            due(y.count(2), y.hours(1), y.count(2), 998, 0, 999);
        });
        String rest = "with BREATH 0 she rests (BREATH is 3 then);";
        edge(13, rest, "she stays where she is, and has breath 3", () ->
                due(at(TO_AND_FRO + "h09;"), breath(TO_AND_FRO + "h09;"), at(TO_AND_FRO + "h10;"), breath(TO_AND_FRO + "h10;"), 1, 0, 1, 3));
        edge(13, rest, "with breath 1 she does not", () ->
                due(at(TO_AND_FRO + "h08;"), breath(TO_AND_FRO + "h08;"), at(TO_AND_FRO + "h09;"), 0, 1, 1));
        edge(13, rest, "without a bag, too; then she goes on", () -> {
            HandbagLady x = of("b390;l050;l900;g00;h09;g01;");
            due(x.bearerOf(0, 3), x.bearerOf(0, 2), x.bearerOf(0, 4), -9, 1, 0);
            due(x.hours(1), x.bearerOf(0, 2), x.bearerOf(0, 4), 0, 1, 3);
            due(x.hours(1), x.bearerOf(0, 2), x.bearerOf(0, 4), 0, 2, 4);
        });
        String goes = "LED she goes to the GOAL as many PLACES as the PACE is (not beyond it), the shorter way round (alike: upward),"
                + " each costs 1 BREATH (0 at least);";
        edge(13, goes, "not beyond it: an old one 1 place away, up and down", () ->
                due(at("b595;l054;g00;h01;"), breath("b595;l054;g00;h01;"), at("b595;l056;g00;h01;"), breath("b595;l056;g00;h01;"), 5, 8, 5, 8));
        edge(13, goes, "at the goal she stays, which costs and gives no breath", () ->
                due(at("b052;l050;g00;h07;"), breath("b052;l050;g00;h02;"), breath("b052;l050;g00;h07;"), 2, 7, 7));
        edge(13, goes, "5 places either way: upward", () ->
                due(at("b095;l000;g00;h01;"), at("b090;l005;g00;h01;"), at("b595;l000;g00;h01;"), at("b594;l009;g00;h01;"), 1, 6, 2, 1));
        edge(13, goes, "4 up is the shorter, 6 up is not", () ->
                due(at("b094;l000;g00;h01;"), at("b096;l000;g00;h01;"), at("b596;l000;g00;h01;"), 1, 9, 8));
        edge(13, goes, "breath 0 at least: 2 places with breath 1", () -> {
            HandbagLady x = of("b391;b595;l000;g00;h09;g10;");
            due(x.bearerOf(0, 4), x.hours(1), x.bearerOf(0, 2), x.bearerOf(0, 4), 1, 0, 2, 0);
        });
        String wants = "else she goes 1 PLACE to her WANT likewise (stays AT it), and BREATH is 1 more (9 at most).";
        edge(13, wants, "stays at it", () -> due(at("l933;h01;"), at("l932;h02;"), at("l932;h60;"), 3, 3, 3));
        edge(13, wants, "alike: upward", () -> due(at("l950;h01;"), at("l905;h01;"), at("l960;h01;"), at("l940;h01;"), 1, 6, 9, 1));
        edge(13, wants, "breath 9 at most", () -> {
            due(breath("l950;h01;"), breath("l930;h60;"), 9, 9);
            HandbagLady x = of("b052;l090;l900;g00;h02;g01;");
            due(x.bearerOf(0, 4), x.hours(1), x.bearerOf(0, 4), x.hours(1), x.bearerOf(0, 4), x.hours(1), x.bearerOf(0, 4), 7, 0, 8, 0, 9, 0, 9);
        });
        edge(13, "then BEARERS by numbers:", "behind a bearer of a lesser number the place is new, behind one of a greater it is old", () ->
                due(of("b494;b000;l940;l890;g10;g01;f01;h01;").bearerOf(1, 2), at("b494;b000;l890;l940;g00;g11;f01;h01;"), 1, 0));
    }

    private static void heldAndSnaps() {
        edge(13, "Then HELD of all BAGS that somebody has is 1 more (99 at most).", "one that nobody has is as it was", () ->
                due(of("b100;b100;l900;g00;h09;").bagOf(1, 4), of("b100;b100;l900;g00;h09;").bagOf(0, 4), 0, 9));
        edge(13, "Then HELD of all BAGS that somebody has is 1 more (99 at most).", "behind all have gone: led a widow's hour later", () ->
                due(at("b155;l500;g00;h01;"), at("b155;l500;g00;h02;"), 0, 1));
        edge(13, "Then HELD of all BAGS that somebody has is 1 more (99 at most).", "99 at most", () ->
                due(of("b100;l900;g00;h60;h39;h01;").bagOf(0, 4), 99));
        String snap = "A SNAP: a BEARER with a CROCODILE who is AT the COLONEL's PLACE behind an HOUR.";
        edge(13, snap, "at his place only ahead of the hour: none", () -> due(of("b295;l000;g00;").hours(9), 0));
        edge(13, snap, "at his place behind each", () -> due(of("b200;l900;g00;").hours(9), 9));
        edge(13, snap, "another bag, or none: none", () ->
                due(of("b000;l900;g00;").hours(9), of("b590;l900;g00;").hours(9), of("b200;l900;").hours(9), 0, 0, 0));
        edge(13, snap, "each of two", () -> due(of("b200;b200;l900;l900;g00;g11;").hours(9), 18));
        edge(13, snap, "one who rests there, too", () -> {
            HandbagLady x = of("b390;b290;l050;g00;h09;g10;c1;");
            due(x.bearerOf(0, 2), x.bearerOf(0, 4), x.hours(1), 1, 0, 1);
        });
        edge(13, snap, "not led she stays there, led she stays away", () ->
                due(of("b249;l999;g00;c9;").hours(3), of("b269;l994;g00;c9;").hours(3), 3, 0));
    }

    private static void lettersOfABequest() {
        edge(3, "A BEQUEST is told in letters, one by one (96 at most)", "96 letters are a bequest", () -> {
            HandbagLady x = new HandbagLady();
            due(told(x, "c1;".repeat(31) + "c7;"), x.count(3), 32, 7);
        });
        edge(2, "A BEQUEST is told in letters, one by one (96 at most)", "the 97th is not taken", () -> {
            HandbagLady x = new HandbagLady();
            for (int k = 1; k <= 96; k++) {
                due(x.feed('c'), k);
            }
            refuses(x, -6, y -> y.feed(';'));
        });
        String behind = "STATEMENTS, each with \";\" behind:";
        edge(3, behind, "none at the end", () -> due(told(new HandbagLady(), "c1"), told(new HandbagLady(), "c1;c2"), -1002, -1005));
        edge(3, behind, "none between two", () -> due(told(new HandbagLady(), "c1c2;"), -1002));
        edge(3, behind, "one too many", () -> due(told(new HandbagLady(), "c1;;"), told(new HandbagLady(), ";"), -1003, -1000));
        edge(3, behind, "no other sign", () -> due(told(new HandbagLady(), "c1:"), told(new HandbagLady(), "c1<"), -1002, -1002));
        digits("\"b\" KIND, FIGURE, HABIT (a digit each): a BAG more;", 'b', 3);
        digits("\"l\" WILL, WANT, AT (a digit each): a BEARER more;", 'l', 3);
        digits("\"g\" a BAG, a BEARER (a digit each): she is given it", 'g', 2);
        digits("\"f\" two BAGS (a digit each; the same: none):", 'f', 2);
        digits("\"c\" the COLONEL's PLACE (a digit);", 'c', 1);
        digits("\"h\" HOURS (2 digits, 1 .. 60).", 'h', 2);
    }

    /** A statement's digits: one too few, one too many, and the signs beside the digits, at each place. */
    private static void digits(String sentence, char letter, int digits) {
        String all = "11111".substring(0, digits);
        edge(3, sentence, "a digit too few", () -> due(told(new HandbagLady(), letter + all.substring(1) + ";"), -1000 - digits));
        edge(3, sentence, "a digit too many", () -> due(told(new HandbagLady(), letter + all + "1;"), -1001 - digits));
        edge(3, sentence, "signs beside 0 and 9 are no digits", () -> {
            for (int k = 0; k < digits; k++) {
                for (char sign : new char[] {'/', ':'}) {
                    due(told(new HandbagLady(), letter + all.substring(0, k) + sign + all.substring(k + 1) + ";"), -1001 - k);
                }
            }
        });
        edge(3, sentence, "the letters beside it and its capital begin no statement, if not another one's", () -> {
            for (int other : new int[] {letter - 1, letter + 1, letter - 32, 0, 255}) {
                if ("blgfch".indexOf(other) < 0) {
                    due(told(new HandbagLady(), (char) other + all + ";"), -1000);
                }
            }
        });
    }

    private static void statementsOfABequest() {
        edge(3, "\"b\" KIND, FIGURE, HABIT (a digit each): a BAG more;", "0s, and 5 9 9", () -> {
            HandbagLady x = of("b000;b599;");
            due(x.bagOf(0, 0), x.bagOf(0, 1), x.bagOf(0, 2), x.bagOf(1, 0), x.bagOf(1, 1), x.bagOf(1, 2), 0, 0, 0, 5, 9, 9);
        });
        edge(3, "\"l\" WILL, WANT, AT (a digit each): a BEARER more;", "0s and 9s", () -> {
            HandbagLady x = of("l000;l999;");
            due(x.bearerOf(0, 0), x.bearerOf(0, 1), x.bearerOf(0, 2), x.bearerOf(1, 0), x.bearerOf(1, 1), x.bearerOf(1, 2), 0, 0, 0, 9, 9, 9);
        });
        edge(3, "(who had it has none then, HELD is 0; what she had nobody has);", "by letters, of two who have one each", () -> {
            HandbagLady x = of("b100;b000;l900;l900;g00;g11;h05;g01;");
            due(x.bagOf(0, 5), x.bagOf(0, 4), x.bagOf(1, 5), x.bearerOf(0, 3), x.bearerOf(1, 3), x.count(4), 1, 0, -9, -9, 0, 1);
        });
        edge(8, "(who had it has none then, HELD is 0; what she had nobody has);", "by gives(), of two who have one each", () -> {
            HandbagLady x = of("b100;b000;l900;l900;g00;g11;h05;");
            due(x.gives(0, 1), x.bagOf(0, 5), x.bagOf(0, 4), x.bagOf(1, 5), x.bearerOf(0, 3), x.bearerOf(1, 3), x.count(4),
                    1, 1, 0, -9, -9, 0, 1);
        });
        edge(8, "(who had it has none then, HELD is 0; what she had nobody has);", "she has it already: HELD is 0", () -> {
            HandbagLady x = of("b100;l900;g00;h05;");
            due(x.bagOf(0, 4), x.gives(0, 0), x.bagOf(0, 4), x.bagOf(0, 5), x.bearerOf(0, 3), 5, 0, 0, 0, 0);
        });
        edge(3, "\"f\" two BAGS (a digit each; the same: none):", "the same: it and its old friend have none", () -> {
            HandbagLady x = of("b000;b000;f01;f11;");
            due(x.bagOf(0, 3), x.bagOf(1, 3), -9, -9);
        });
        edge(3, "FRIENDS of each other (of both the old ones have none then);", "both had another", () -> {
            HandbagLady x = of("b000;b000;b000;b000;f01;f23;f12;");
            due(x.bagOf(0, 3), x.bagOf(1, 3), x.bagOf(2, 3), x.bagOf(3, 3), -9, 2, 1, -9);
        });
        edge(9, "FRIENDS of each other (of both the old ones have none then);", "both had another, by friends()", () -> {
            HandbagLady x = of("b000;b000;b000;b000;f01;f23;");
            due(x.friends(3, 0), x.bagOf(0, 3), x.bagOf(1, 3), x.bagOf(2, 3), x.bagOf(3, 3), 1, 3, -9, -9, 0);
        });
        edge(9, "FRIENDS of each other (of both the old ones have none then);", "they were friends before: they still are", () -> {
            HandbagLady x = of("b000;b000;f01;");
            due(x.friends(1, 0), x.bagOf(0, 3), x.bagOf(1, 3), 1, 1, 0);
        });
        edge(3, "\"c\" the COLONEL's PLACE (a digit);", "0 and 9", () -> due(of("c9;").count(3), of("c9;c0;").count(3), 9, 0));
        edge(3, "\"h\" HOURS (2 digits, 1 .. 60).", "01 and 60", () -> due(of("h01;").count(2), of("h60;").count(2), 1, 60));
        edge(3, "\"h\" HOURS (2 digits, 1 .. 60).", "00 is too small", () -> due(told(new HandbagLady(), "h00;"), -2000));
        edge(3, "\"h\" HOURS (2 digits, 1 .. 60).", "61 and 99 are too great", () ->
                due(told(new HandbagLady(), "h61;"), told(new HandbagLady(), "h99;"), -2000, -2000));
        edge(3, "At least one STATEMENT.", "without a letter", () -> due(new HandbagLady().bequest(), -1000));
        edge(3, "At least one STATEMENT.", "one is enough", () -> due(told(new HandbagLady(), "c0;"), 1));
    }

    private static void faults() {
        String first = "FAULT: kind 1 the place of the first letter with which no BEQUEST can go on (the end, if something lacks):"
                + " -1000 less the place;";
        edge(3, first, "the first letter is place 0", () -> due(told(new HandbagLady(), "x"), told(new HandbagLady(), "0c1;"), -1000, -1000));
        edge(3, first, "the first of two", () -> due(told(new HandbagLady(), "c1;x;c1;x;"), -1003));
        edge(3, first, "the end, wherever a statement breaks off", () -> {
            String whole = "b123;";
            for (int k = 1; k < whole.length(); k++) {
                due(told(new HandbagLady(), whole.substring(0, k)), told(new HandbagLady(), "c1;" + whole.substring(0, k)), -1000 - k, -1003 - k);
            }
        });
        edge(3, first, "the end behind 96 letters", () -> due(told(new HandbagLady(), "c1;".repeat(31) + "c11"), told(new HandbagLady(),
                "c1;".repeat(31) + "b11"), -1095, -1096));
        edge(3, first, "the last of 96 letters", () -> due(told(new HandbagLady(), "c1;".repeat(31) + "c1x"), -1095));
        edge(3, first, "letters 0 and 255", () -> due(told(new HandbagLady(), "c1;\0"), told(new HandbagLady(), "c\u00ff;"), -1003, -1001));
        String second = "else kind 2 the place of the first letter of the first STATEMENT that, behind all ahead of it in the text, is not"
                + " as it must be (a number out of range, no such one, HOUR above 999, no room): -2000 less the place.";
        edge(3, second, "kind 1 comes first, though it stands behind", () ->
                due(told(new HandbagLady(), "h00;x"), told(new HandbagLady(), "h00;g00;c"), -1004, -1009));
        edge(3, second, "the first of several", () -> due(told(new HandbagLady(), "c1;b600;h00;g00;"), told(new HandbagLady(), "c1;c1;h00;b600;"), -2003, -2006));
        edge(3, second, "a number out of range: kind 5 is in it, 6 and 9 are not", () ->
                due(told(new HandbagLady(), "b500;"), told(new HandbagLady(), "b600;"), told(new HandbagLady(), "b900;"), 1, -2000, -2000));
        edge(3, second, "a number out of range: hours", () -> due(told(new HandbagLady(), "h01;h00;"), told(new HandbagLady(), "h60;h61;"), -2004, -2004));
        edge(3, second, "no such bag to give", () ->
                due(told(new HandbagLady(), "l000;g00;"), told(new HandbagLady(), "b000;l000;g10;"), told(new HandbagLady(), "b000;l000;g90;"),
                        -2005, -2010, -2010));
        edge(3, second, "no such bearer to give it", () ->
                due(told(new HandbagLady(), "b000;g00;"), told(new HandbagLady(), "b000;l000;g01;"), told(new HandbagLady(), "b000;l000;g09;"),
                        -2005, -2010, -2010));
        edge(3, second, "no such bag to be friends, either", () ->
                due(told(new HandbagLady(), "f00;"), told(new HandbagLady(), "b000;f01;"), told(new HandbagLady(), "b000;f10;"),
                        told(new HandbagLady(), "b000;f99;"), -2000, -2005, -2005, -2005));
        edge(3, second, "the last bag and bearer are there, those behind them not", () -> {
            String full = "b000;b000;b000;b000;b000;b000;l000;l000;l000;l000;l000;";
            due(told(new HandbagLady(), full + "g54;f55;"), told(new HandbagLady(), full + "g64;"), told(new HandbagLady(), full + "g55;"),
                    told(new HandbagLady(), full + "f56;"), 13, -2055, -2055, -2055);
        });
        edge(3, second, "no room for a seventh bag", () ->
                due(told(new HandbagLady(), "b000;".repeat(6)), told(new HandbagLady(), "b000;".repeat(7)), told(of("b000;".repeat(6)), "b000;"), 6, -2030, -2000));
        edge(3, second, "no room for a sixth bearer", () ->
                due(told(new HandbagLady(), "l000;".repeat(5)), told(new HandbagLady(), "l000;".repeat(6)), told(of("l000;".repeat(5)), "l000;"), 5, -2025, -2000));
        edge(3, second, "hour 999 is not above 999", () -> {
            HandbagLady x = new HandbagLady();
            due(told(x, "h60;".repeat(16) + "h39;"), x.count(2), 17, 999);
        });
        edge(3, second, "hour 1000 is", () -> {
            HandbagLady x = new HandbagLady();
            due(told(x, "h60;".repeat(16) + "h40;"), x.count(2), -2064, 0);
            due(told(x, "h60;".repeat(16) + "h39;"), told(x, "h01;"), x.count(2), 17, -2000, 999);
        });
        edge(3, second, "behind all ahead of it: what comes first makes it right, what comes later does not", () ->
                due(told(new HandbagLady(), "b000;l000;g00;"), told(new HandbagLady(), "g00;b000;l000;"), told(new HandbagLady(), "b000;g00;l000;"),
                        3, -2000, -2005));
        edge(3, second, "behind what there is: bags and bearers of before", () -> due(told(of("b000;l000;"), "g00;"), told(of("b000;"), "l000;g00;"), 1, 2));
        edge(3, second, "place 92, the last one at which it can begin", () -> due(told(new HandbagLady(), "c1;".repeat(24) + "h01;".repeat(5) + "h00;"), -2092));
        String all = "Without FAULT all of it comes, with one nothing.";
        edge(3, all, "a fault of kind 2 in the last statement", () -> {
            String before = "b053;b400;l090;g00;f01;c3;h02;";
            HandbagLady x = of(before);
            due(told(x, "b000;l000;g11;f00;c9;h09;g09;"), -2025);
            alike(x, of(before));
        });
        edge(3, all, "a fault of kind 1 at the end", () -> {
            String before = "b053;b400;l090;g00;f01;c3;h02;";
            HandbagLady x = of(before);
            due(told(x, "b000;l000;g11;f00;c9;h09;"), told(x, "b000;l000;g11;f00;c9;h09"), 6, -1024);
            alike(x, of(before + "b000;l000;g11;f00;c9;h09;"));
        });
        edge(3, all, "without one", () -> {
            HandbagLady x = of("b053;l090;g00;");
            due(told(x, "b000;l000;g11;f01;c9;h02;"), 6);
            due(x.count(0), x.count(1), x.count(2), x.count(3), x.count(4), x.bagOf(0, 3), x.bearerOf(0, 2), 2, 2, 2, 9, 2, 1, 2);
        });
    }
}

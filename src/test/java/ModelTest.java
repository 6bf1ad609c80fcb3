import java.lang.reflect.Method;
import java.util.ArrayList;
import java.util.Arrays;
import java.util.Comparator;
import java.util.List;

/**
 * Long runs of calls, drawn by a fixed seed, on the class and on PlainModel alike: every answer
 * is compared, and the whole visible state behind every call that may change it.
 */
public final class ModelTest {
    private static final int RUNS = 400;
    private static long seed = 20261118L;
    private static int wrong = 0;

    private static int draw(int below) {
        seed = seed * 6364136223846793005L + 1442695040888963407L;
        return (int) ((seed >>> 33) % below);
    }

    private static int pick(int... of) {
        return of[draw(of.length)];
    }

    /** Mostly a number that is taken, now and then one at or beyond an edge. */
    private static int argument(String call, int index) {
        if (draw(40) == 0) {
            return pick(Integer.MIN_VALUE, Integer.MAX_VALUE, -1, -2, -9, 61, 10, 1000, 65536, 1 << 31 - 1);
        }
        boolean hours = call.equals("hours") || index == 1 && "behind rests nextTell".contains(call)
                || index == 0 && "company snaps quiet swap tired busy farthest".contains(call)
                || index == 2 && "defy arm visits together sleep".contains(call);
        if (call.equals("sleep") && index >= 2) {
            return index == 2 ? draw(10) : index == 3 ? 1 + draw(21) : draw(3) == 0 ? 0 : draw(2);
        }
        if (hours) {
            return draw(8) == 0 ? pick(0, 59, 60, 61, -1) : draw(20);
        }
        if (call.equals("lots")) {
            return index == 0 ? draw(4) == 0 ? pick(0, 1, 20, 21) : 1 + draw(3) : index == 1 ? (int) (draw(1 << 30) * 2654435761L) : draw(2);
        }
        if (call.equals("row")) {
            return draw(30) == 0 ? pick(99, 100, -1) : draw(10);
        }
        if (call.equals("bag") && index == 0) {
            return draw(6);
        }
        if (call.equals("bag") || call.equals("bearer")) {
            return draw(10);
        }
        if (call.equals("count")) {
            return draw(19) - 1;
        }
        if (call.equals("given") && index == 2 || call.equals("quiet") && index == 1) {
            return draw(6) - 1;
        }
        if (call.equals("breathless")) {
            return draw(5) - 1;
        }
        if ("wants put colonel bestBag errand defy sleep visits bestHabit".contains(call)
                && (index == 1 || call.equals("colonel"))) {
            return draw(10);
        }
        if (call.equals("bagOf") && index == 1 || call.equals("bearerOf") && index == 1) {
            return draw(7);
        }
        if (index == 2 || call.equals("heir") || index == 1 && "whose company snaps busy farthest".contains(call)) {
            return draw(4);
        }
        return draw(draw(3) == 0 ? 6 : 4);
    }

    private static String letters() {
        StringBuilder text = new StringBuilder();
        int statements = 1 + draw(5);
        for (int k = 0; k < statements; k++) {
            switch (draw(7)) {
                case 0 -> text.append('b').append(draw(9) == 0 ? draw(10) : draw(6)).append(draw(10)).append(draw(10));
                case 1 -> text.append('l').append(draw(10)).append(draw(10)).append(draw(10));
                case 2, 3 -> text.append('g').append(draw(5)).append(draw(4));
                case 4 -> text.append('f').append(draw(5)).append(draw(5));
                case 5 -> text.append('c').append(draw(10));
                default -> text.append('h').append(draw(9) == 0 ? pick(6, 9, 0) : draw(3)).append(draw(10));
            }
            text.append(';');
        }
        if (draw(5) == 0) {
            int place = draw(text.length());
            switch (draw(3)) {
                case 0 -> text.setCharAt(place, (char) pick(';', 'b', 'x', '0', '/', ':', 0, 255, 'h'));
                case 1 -> text.deleteCharAt(place);
                default -> text.setLength(place);
            }
        }
        return text.toString();
    }

    private static Object answer(Object of, Method call, Object[] with) throws Exception {
        return call.invoke(of, with);
    }

    private static String state(HandbagLady x) {
        StringBuilder all = new StringBuilder();
        for (int what = 0; what <= 17; what++) {
            all.append(x.count(what)).append(' ');
        }
        for (int b = 0; b < x.count(0); b++) {
            for (int what = 0; what < 7; what++) {
                all.append(x.bagOf(b, what)).append(what < 6 ? "," : " ");
            }
        }
        for (int l = 0; l < x.count(1); l++) {
            for (int what = 0; what < 6; what++) {
                all.append(x.bearerOf(l, what)).append(what < 5 ? "," : " ");
            }
        }
        return all.toString();
    }

    private static String state(PlainModel x) {
        StringBuilder all = new StringBuilder();
        for (int what = 0; what <= 17; what++) {
            all.append(x.count(what)).append(' ');
        }
        for (int b = 0; b < x.count(0); b++) {
            for (int what = 0; what < 7; what++) {
                all.append(x.bagOf(b, what)).append(what < 6 ? "," : " ");
            }
        }
        for (int l = 0; l < x.count(1); l++) {
            for (int what = 0; what < 6; what++) {
                all.append(x.bearerOf(l, what)).append(what < 5 ? "," : " ");
            }
        }
        return all.toString();
    }

    private static void differ(int run, List<String> calls, String got, String due) {
        wrong++;
        if (wrong <= 5) {
            System.out.println("run " + run + ": " + calls + "\n  got " + got + "\n  due " + due);
        }
    }

    public static void main(String[] args) throws Exception {
        List<Method> calls = new ArrayList<>();
        for (Method m : HandbagLady.class.getDeclaredMethods()) {
            if (java.lang.reflect.Modifier.isPublic(m.getModifiers()) && !m.getName().equals("feed")) {
                calls.add(m);
            }
        }
        calls.sort(Comparator.comparing(Method::getName));
        for (int run = 0; run < RUNS && wrong == 0; run++) {
            oneRun(run, calls);
        }
        System.out.println(wrong == 0 ? "the class and the model agree" : wrong + " answers differ");
        if (wrong != 0) {
            System.exit(1);
        }
    }

    private static void oneRun(int run, List<Method> calls) throws Exception {
        HandbagLady x = new HandbagLady();
        PlainModel model = new PlainModel();
        List<String> log = new ArrayList<>();
        int bags = draw(7);
        int ladies = draw(3) == 0 ? draw(6) : draw(5);
        for (int k = 0; k < bags; k++) {
            int[] a = {draw(6), draw(10), draw(10)};
            log.add("bag" + Arrays.toString(a));
            compare(run, log, x.bag(a[0], a[1], a[2]), model.bag(a[0], a[1], a[2]));
        }
        for (int k = 0; k < ladies; k++) {
            int[] a = {draw(draw(2) == 0 ? 10 : 4), draw(10), draw(10)};
            log.add("bearer" + Arrays.toString(a));
            compare(run, log, x.bearer(a[0], a[1], a[2]), model.bearer(a[0], a[1], a[2]));
            int b = draw(7);
            log.add("gives[" + b + ", " + k + "]");
            compare(run, log, x.gives(b, k), model.gives(b, k));
        }
        for (int k = 0; k < 120 && wrong == 0; k++) {
            Method m = calls.get(draw(calls.size()));
            String name = m.getName();
            if (name.equals("bequest") && draw(8) != 0) {
                String text = letters();
                log.add("feed all of " + text);
                for (char c : text.toCharArray()) {
                    compare(run, log, x.feed(c), model.feed(c));
                }
            }
            if (name.equals("whose") || name.equals("judge")) {
                tellWalk(run, log, x, model);
            }
            Object[] with = new Object[m.getParameterCount()];
            for (int p = 0; p < with.length; p++) {
                with[p] = argument(name, p);
            }
            log.add(name + Arrays.toString(with));
            Method its = PlainModel.class.getDeclaredMethod(name, m.getParameterTypes());
            compare(run, log, ((Number) answer(x, m, with)).longValue(), ((Number) answer(model, its, with)).longValue());
            String got = state(x);
            String due = state(model);
            if (!got.equals(due)) {
                differ(run, log, got, due);
            }
        }
    }

    /** Often a row that is true of some bearer, so that judging it is not always no. */
    private static void tellWalk(int run, List<String> log, HandbagLady x, PlainModel model) {
        if (draw(3) == 0 || x.count(1) == 0) {
            return;
        }
        log.add("clear");
        compare(run, log, x.clear(), model.clear());
        int bearer = draw(x.count(1));
        int length = 1 + draw(6);
        for (int n = 0; n < length; n++) {
            int v = draw(12) == 0 ? draw(10) : model.now.behind(n).at(bearer);
            log.add("row[" + v + "]");
            compare(run, log, x.row(v), model.row(v));
        }
    }

    private static void compare(int run, List<String> log, long got, long due) {
        if (got != due) {
            differ(run, log, Long.toString(got), Long.toString(due));
        }
    }
}

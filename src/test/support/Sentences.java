import java.lang.reflect.InvocationTargetException;
import java.lang.reflect.Method;
import java.util.ArrayList;
import java.util.HashMap;
import java.util.HashSet;
import java.util.List;
import java.util.Map;
import java.util.Set;

/**
 * Tests of single sentences of the document: each is a run of calls on a new object, told as steps.
 *
 * <pre>
 *   tape TEXT                comes to the tape, by fours
 *   told TEXT                likewise, and becomes a matter
 *   row SHELF SORT: V V ..   a shelf holds a row of these elements
 *   CALL(N, N, ..)           a call, whatever it answers
 *   N times CALL(N, N, ..)   so many of them
 *   CALL(N, N, ..) = DUE     a call and the answer that is due
 * </pre>
 *
 * A step's text may hold several steps, parted by |. A number is written as such, as 'x' (a byte), or by one of the
 * names below. Where the answer that is due is a refusal, it is also looked whether the object then answers as one
 * that was spared the call: what is refused changes nothing.
 */
final class Sentences {
    private static final int CALLS = 512;
    private static final Map<String, Long> NAMES = Map.ofEntries(
        Map.entry("BAD", -1L), Map.entry("NOT", -2L), Map.entry("FULL", -3L), Map.entry("BIG", -4L),
        Map.entry("STATE", -5L), Map.entry("VOID", -2000000000L),
        Map.entry("MIN", (long) Integer.MIN_VALUE), Map.entry("MAX", (long) Integer.MAX_VALUE),
        Map.entry("LEAST", Long.MIN_VALUE), Map.entry("GREATEST", Long.MAX_VALUE));
    private static final Set<String> REFUSALS = Set.of(
        "BAD", "NOT", "FULL", "BIG", "STATE", "VOID", "LEAST", "-11", "-12", "-13", "-14");

    private final Map<String, Method> face = new HashMap<>();
    private final Set<String> said = new HashSet<>();
    private String promise = "";
    private int wrong;

    Sentences() {
        for (Method m : VotedFor.class.getMethods()) face.put(m.getName(), m);
    }

    /** The promise, or the part of the terms, that the next sentences stand in. */
    void promise(String numberAndName) {
        promise = numberAndName;
    }

    /** A sentence, in a word, and the steps that fail if it is broken. */
    void says(String sentence, String... steps) {
        String name = promise + ": " + sentence;
        if (!said.add(name)) throw new IllegalStateException("said twice: " + name);
        List<Step> all = new ArrayList<>();
        for (String step : steps) {
            for (String one : step.split("\\|")) read(one.trim(), all);
        }
        if (all.size() > CALLS) throw new IllegalStateException("too many calls: " + name);
        follow(name, all);
        for (int i = 0; i < all.size(); i++) {
            if (all.get(i).isRefused) compare(name, all.subList(0, i), all.get(i));
        }
    }

    /** A range: each of the numbers, in the place of the % in a call, is outside it and refused. */
    void refuses(String range, String ahead, String call, String due, String... numbers) {
        for (String number : numbers) {
            says(range + ": not " + number + " in " + call, ahead, call.replace("%", number) + " = " + due);
        }
    }

    /** A number that is due without any call. */
    void due(String sentence, long got, long due) {
        if (!said.add(promise + ": " + sentence)) throw new IllegalStateException("said twice: " + sentence);
        if (got != due) fail(promise + ": " + sentence + ", not " + got);
    }

    /** Ends the program: with 1 if an answer was not the one that is due. */
    void end() {
        if (wrong == 0) return;
        System.out.println(wrong + " answers are wrong, of " + said.size() + " sentences");
        System.exit(1);
    }

    private void fail(String text) {
        wrong++;
        System.out.println(text);
    }

    // ---- steps

    private record Step(String text, Method call, Object[] with, Long due, boolean isRefused) {
        long on(VotedFor x) {
            try {
                return ((Number) call.invoke(x, with)).longValue();
            } catch (IllegalAccessException | InvocationTargetException e) {
                throw new IllegalStateException(text + " throws", e);
            }
        }
    }

    private void read(String text, List<Step> to) {
        if (text.startsWith("tape ")) {
            readTape(text.substring(5), to);
        } else if (text.startsWith("told ")) {
            readTape(text.substring(5), to);
            to.add(new Step(text, face.get("matter"), new Object[0], null, false));
        } else if (text.startsWith("row ")) {
            readRow(text.substring(4), to);
        } else if (text.contains(" times ")) {
            int at = text.indexOf(" times ");
            Step step = readCall(text.substring(at + 7));
            for (int i = Integer.parseInt(text.substring(0, at)); i > 0; i--) to.add(step);
        } else {
            to.add(readCall(text));
        }
    }

    private void readTape(String text, List<Step> to) {
        for (int i = 0; i < text.length(); i += 4) {
            int n = Math.min(4, text.length() - i);
            int v = 0;
            for (int j = 0; j < n; j++) v |= text.charAt(i + j) << 8 * j;
            to.add(readCall("feed(" + n + ", " + v + ")"));
        }
    }

    private void readRow(String text, List<Step> to) {
        int colon = text.indexOf(':');
        String[] shelfAndSort = text.substring(0, colon).split(" ");
        String rest = text.substring(colon + 1).trim();
        String[] elements = rest.isEmpty() ? new String[0] : rest.split(" +");
        to.add(readCall("row(" + shelfAndSort[0] + ", " + shelfAndSort[1] + ", " + elements.length + ") = 1"));
        for (int i = 0; i < elements.length; i++) {
            to.add(readCall("put(" + shelfAndSort[0] + ", " + i + ", " + elements[i] + ") = 1"));
        }
    }

    private Step readCall(String text) {
        int open = text.indexOf('(');
        int close = text.lastIndexOf(')');
        Method call = face.get(text.substring(0, open));
        String inside = text.substring(open + 1, close).trim();
        String[] numbers = inside.isEmpty() ? new String[0] : inside.split(" *, *");
        Class<?>[] types = call.getParameterTypes();
        if (numbers.length != types.length) throw new IllegalArgumentException(text);
        Object[] with = new Object[numbers.length];
        for (int i = 0; i < numbers.length; i++) {
            long v = number(numbers[i]);
            if (types[i] == int.class) with[i] = Math.toIntExact(v);
            else with[i] = v;
        }
        String after = text.substring(close + 1).trim();
        if (after.isEmpty()) return new Step(text, call, with, null, false);
        if (!after.startsWith("= ")) throw new IllegalArgumentException(text);
        String due = after.substring(2);
        boolean mayRefuse = !call.getName().equals("act");
        return new Step(text, call, with, number(due), mayRefuse && REFUSALS.contains(due));
    }

    private static long number(String text) {
        if (NAMES.containsKey(text)) return NAMES.get(text);
        if (text.length() == 3 && text.charAt(0) == '\'') return text.charAt(1);
        return Long.decode(text);
    }

    // ---- runs

    private void follow(String name, List<Step> steps) {
        VotedFor x = new VotedFor();
        for (Step step : steps) {
            long got = step.on(x);
            boolean isTold = step.text.startsWith("told ");
            if (isTold && got < 0 || step.due != null && got != step.due) {
                fail(name + ": " + step.text + " answered " + got);
            }
        }
    }

    /** Whether an object that has heard the refused call answers as one that has not. */
    private void compare(String name, List<Step> ahead, Step refused) {
        for (int part = 0; part < Looks.PARTS; part++) {
            List<String> spared = new Looks(run(ahead, null), CALLS - 1 - ahead.size()).at(part);
            List<String> told = new Looks(run(ahead, refused), CALLS - 1 - ahead.size()).at(part);
            for (int i = 0; i < spared.size(); i++) {
                if (told.size() > i && told.get(i).equals(spared.get(i))) continue;
                fail(name + ": " + refused.text + " changes something: spared it, " + spared.get(i)
                    + (told.size() > i ? ", else " + told.get(i) : ""));
                return;
            }
        }
    }

    private static VotedFor run(List<Step> ahead, Step last) {
        VotedFor x = new VotedFor();
        for (Step step : ahead) step.on(x);
        if (last != null) last.on(x);
        return x;
    }

    /** What an object answers about all that it holds, as far as its calls go. */
    private static final class Looks {
        static final int PARTS = 3;

        private final VotedFor x;
        private final List<String> seen = new ArrayList<>();
        private int left;

        Looks(VotedFor x, int left) {
            this.x = x;
            this.left = left;
        }

        List<String> at(int part) {
            if (part == 0) lookAtTraceAndTape();
            else if (part == 1) lookAtMatters();
            else lookAtShelves();
            return seen;
        }

        private boolean may(int calls) {
            left -= calls;
            return left >= 0;
        }

        private void see(String what, long... answers) {
            seen.add(what + " answers " + java.util.Arrays.toString(answers));
        }

        private void lookAtTraceAndTape() {
            if (may(6)) {
                for (int what = 0; what < 6; what++) see("count " + what, x.count(what));
            }
            for (int i = 0; i < 12 && may(1); i++) see("trace " + i, x.trace(i));
            int knowings = may(1) ? x.count(4) : 0;
            for (int n = 0; n < knowings && may(1); n++) see("act of " + n, x.act(n, 3, 1));
            if (may(2)) see("matter behind one more byte", x.feed(1, 'g'), x.matter());
            if (may(2)) see("matter and count", x.matter(), x.count(0));
        }

        private void lookAtMatters() {
            int matters = may(1) ? x.count(0) : 0;
            for (int m = 0; m < matters; m++) lookAt(m);
            for (int m = 0; m < matters; m++) lookAtWeights(m);
        }

        private void lookAt(int m) {
            if (!may(4)) return;
            see("of " + m, x.of(m, 0), x.of(m, 1), x.of(m, 2), x.of(m, 3));
            if (!may(8)) return;
            see("all of " + m, x.inAll(m, 0, 0), x.inAll(m, 0, 1), x.inAll(m, 11, 1), x.line(m, 1000), x.wrong(m, -1),
                x.sure(m, 0), x.next(m, 1), x.opens(m, 0, 0));
            for (int h = 0; h < x.of(m, 3) && may(3); h++) {
                see("held " + h, x.by(m, 1 << h, 0, 0), x.by(m, 1 << h, 11, 1));
            }
            for (int b = 0; b < x.of(m, 2) && may(9); b++) {
                int at = 100 * m + b;
                see("box " + at, x.sum(at, 0), x.sum(at, 10), x.sum(at, 20), x.many(at), x.ends(at, 0, 0),
                    x.ends(at, 11, 1), x.split(at, 0, 1), x.splits(at, 0));
            }
        }

        private void lookAtWeights(int m) {
            int groups = may(2) ? x.of(m, 0) : 0;
            int choices = groups > 0 ? x.of(m, 1) : 0;
            for (int p = 0; p < groups * choices && may(1); p++) {
                int cell = 10 * (p / choices) + p % choices;
                see("weight of " + cell, x.weight(m, cell, 0));
            }
        }

        /** The sort of a row is seen by what a wide number becomes. */
        private void lookAtShelves() {
            for (int s = 0; s < 6; s++) {
                if (!may(1)) return;
                see("shelf " + s, x.taken(s, 0));
                for (int i = 0; i < 60 && may(1); i++) {
                    long element = x.element(s, i);
                    see("element " + i, element);
                    if (element == Long.MIN_VALUE) break;
                }
                if (may(2)) see("what is put", x.put(s, 0, 0x123456789abcdefL), x.element(s, 0));
            }
        }
    }
}

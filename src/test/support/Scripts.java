import java.io.IOException;
import java.lang.reflect.InvocationTargetException;
import java.lang.reflect.Method;
import java.nio.charset.StandardCharsets;
import java.nio.file.Files;
import java.nio.file.Path;
import java.util.Arrays;
import java.util.Comparator;
import java.util.IdentityHashMap;
import java.util.Map;

/**
 * What the tests share. A script has one call a line, "call arguments = answer", where an answer can be IAE,
 * ISE or IOOBE for the exceptions; "text" writes the rest of its line to the tape. A call that is refused is
 * seen to change nothing, and no object is used for more than 512 calls.
 */
class Scripts {
    private static final int MOST_CALLS = 512;
    private static final Path DOCUMENT = Path.of("../shared/DOC.md");
    private static final Map<RuleStack, Integer> CALLS = new IdentityHashMap<>();
    private static String document = "";
    private static String sentence = "";
    private static int sentences = 0;
    private static int wrong = 0;
    private static int checked = 0;

    /** Runs all tests of the class, which are its methods without arguments that are named as a promise or section. */
    static void runAll(Class<?> tests) {
        Method[] all = tests.getDeclaredMethods();
        Arrays.sort(all, Comparator.comparing(Method::getName));
        for (Method test : all) {
            if (test.getParameterCount() == 0 && test.getName().matches("(promise|section)[0-9].*")) {
                runOne(test);
            }
        }
        finish();
    }

    private static void runOne(Method test) {
        int before = sentences;
        try {
            test.invoke(null);
        } catch (IllegalAccessException e) {
            due(test.getName(), "cannot be called", "is called");
        } catch (InvocationTargetException e) {
            due(sentence + ": " + test.getName(), "threw " + e.getCause(), "ends");
        }
        due(test.getName() + " tells its sentence", "" + (sentences - before), "1");
        sentence = "";
    }

    static void finish() {
        System.out.println(checked + " answers checked" + (sentences > 0 ? " for " + sentences + " sentences" : ""));
        if (wrong != 0) {
            System.out.println(wrong + " answers are not as due");
            System.exit(1);
        }
    }

    /**
     * Tells which sentence a test holds; the words are the document's own (its parts joined by " .. "). Words that
     * are not there are told, but do not make the test fail: the class is then as good as it was.
     */
    static void sentence(String where, String words) {
        sentence = where + " \"" + words + "\"";
        sentences++;
        for (String part : words.split(" \\.\\. ")) {
            if (!stands(part)) {
                System.out.println("not in the document: " + part);
            }
        }
    }

    private static boolean stands(String words) {
        if (document.isEmpty() && Files.isReadable(DOCUMENT)) {
            try {
                document = plain(Files.readString(DOCUMENT));
            } catch (IOException e) {
                return false;
            }
        }
        return document.isEmpty() || document.contains(plain(words));
    }

    private static String plain(String text) {
        return text.replace("`", "").replaceAll("\\s+", " ");
    }

    static void due(String what, String got, String want) {
        checked++;
        if (!got.equals(want)) {
            wrong++;
            System.out.println((sentence.isEmpty() || what.startsWith(sentence) ? "" : sentence + ": ")
                + shortened(what) + " answered " + got + ", due is " + want);
        }
    }

    private static String shortened(String text) {
        int length = text.length();
        return length < 400 ? text : text.substring(0, 150) + " .. " + text.substring(length - 150);
    }

    // ---- programs

    static void write(RuleStack x, String text) {
        byte[] bytes = text.getBytes(StandardCharsets.ISO_8859_1);
        int before = Integer.parseInt(answer(x, "count 6"));
        for (int i = 0; i < bytes.length; i += 20) {
            int[] n = new int[5];
            for (int k = 0; k < 20; k++) {
                n[k / 4] = n[k / 4] << 8 | (i + k < bytes.length ? bytes[i + k] & 255 : 32);
            }
            answer(x, "feed " + n[0] + " " + n[1] + " " + n[2] + " " + n[3] + " " + n[4]);
        }
        answer(x, "trim " + (before + bytes.length));
    }

    static String compiled(RuleStack x, String text) {
        write(x, text);
        return answer(x, "compile") + " at " + answer(x, "errorAt");
    }

    static RuleStack good(String text) {
        RuleStack x = new RuleStack();
        due("compile of " + text, compiled(x, text), "0 at -1");
        return x;
    }

    /** The program has this error where the | stands, which is not part of it. */
    static void fault(int error, String marked) {
        RuleStack x = new RuleStack();
        String text = marked.replace("|", "");
        due("compile of " + marked, compiled(x, text), error + " at " + marked.indexOf('|'));
        due("begin after " + marked, answer(x, "begin 2 0"), "ISE");
    }

    /** The form with %c replaced by the letters from a on. */
    static String items(String form, int n) {
        StringBuilder all = new StringBuilder();
        for (int i = 0; i < n; i++) {
            all.append(form.replace("%c", "" + (char) ('a' + i)));
        }
        return all.toString();
    }

    // ---- calls

    static void script(String title, String lines) {
        run(new RuleStack(), title, lines);
    }

    static void run(RuleStack x, String lines) {
        run(x, "", lines);
    }

    static void run(RuleStack x, String title, String lines) {
        for (String line : lines.split("\n")) {
            String plain = line.trim();
            if (plain.startsWith("text ")) {
                write(x, x.count(6) == 0 ? plain.substring(5) : " " + plain.substring(5));
            } else if (!plain.isEmpty()) {
                int sign = plain.lastIndexOf(" = ");
                runOne(x, title.isEmpty() ? plain : title + ": " + plain, plain.substring(0, sign), plain.substring(sign + 3).trim());
            }
        }
    }

    private static void runOne(RuleStack x, String title, String call, String want) {
        boolean refused = want.startsWith("I");
        String before = refused ? seen(x) : "";
        due(title, answer(x, call), want);
        if (refused && !seen(x).equals(before)) {
            due(title, "changed something", "changes nothing");
        }
    }

    /** What is changed by nearly every change. */
    private static String seen(RuleStack x) {
        return answer(x, "digest") + " " + answer(x, "errorAt");
    }

    static String answer(RuleStack x, String call) {
        int calls = CALLS.merge(x, 1, Integer::sum);
        if (calls == MOST_CALLS + 1) {
            due("the test's " + calls + "th call " + call, "is made", "is free to answer anything");
        }
        try {
            return called(x, call.trim().split(" +"));
        } catch (RuntimeException e) {
            return e.getClass() == IllegalArgumentException.class ? "IAE"
                : e.getClass() == IllegalStateException.class ? "ISE"
                : e.getClass() == IndexOutOfBoundsException.class ? "IOOBE" : "thrown " + e;
        }
    }

    private static String called(RuleStack x, String[] words) {
        int[] n = new int[words.length];
        for (int i = 1; i < words.length; i++) {
            n[i] = (int) (words[i].matches("-?[0-9]+") ? Long.parseLong(words[i]) : 0);
        }
        switch (words[0]) {
            case "feed": return "" + x.feed(n[1], n[2], n[3], n[4], n[5]);
            case "trim": return "" + x.trim(n[1]);
            case "compile": return "" + x.compile();
            case "errorAt": return "" + x.errorAt();
            case "count": return "" + x.count(n[1]);
            case "begin": return "" + x.begin(n[1], Long.parseLong(words[2]));
            case "act": return "" + x.act(n[1], n[2]);
            case "reply": return "" + x.reply(n[1], n[2]);
            case "pass": return "" + x.pass();
            case "canAct": return "" + x.can(false, n[1], n[2]);
            case "canReply": return "" + x.can(true, n[1], n[2]);
            case "moves": return "" + x.moves();
            case "state": return "" + x.state();
            case "told": return "" + x.told(n[1]);
            case "track": return "" + x.track(n[1], n[2]);
            case "pool": return "" + x.pool(n[1]);
            case "stack": return "" + x.stack(n[1], n[2]);
            case "move": return "" + x.move(n[1], n[2]);
            case "back": return "" + x.back(n[1]);
            case "z": return "" + x.z();
            case "mean": return "" + x.mean(n[1]);
            case "digest": return "" + x.digest();
            default: return "no call " + words[0];
        }
    }

    /** The digest as the document reckons it, from what the other calls answer. */
    static String reckonedDigest(RuleStack x) {
        long d = 419;
        int[] counts = new int[10];
        for (int what = 0; what <= 9; what++) {
            counts[what] = Integer.parseInt(answer(x, "count " + what));
            d = d * 31 + counts[what];
        }
        boolean game = !answer(x, "state").equals("-1");
        d = d * 31 + number(x, "state");
        for (int what = 0; what <= 7; what++) {
            d = d * 31 + number(x, "told " + what);
        }
        d = d * 31 + number(x, "z");
        for (int player = 0; player < counts[7]; player++) {
            for (int track = 0; track < counts[0]; track++) {
                d = d * 31 + number(x, "track " + player + " " + track);
            }
        }
        for (int pool = 0; game && pool < counts[1]; pool++) {
            d = d * 31 + number(x, "pool " + pool);
        }
        for (int i = 0; i < counts[9] * 4; i++) {
            d = d * 31 + number(x, "stack " + i / 4 + " " + i % 4);
        }
        for (int i = 0; i < counts[8] * 4; i++) {
            d = d * 31 + number(x, "move " + i / 4 + " " + i % 4);
        }
        return "" + d;
    }

    private static long number(RuleStack x, String call) {
        return Long.parseLong(answer(x, call));
    }
}

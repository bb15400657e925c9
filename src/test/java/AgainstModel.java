import java.nio.charset.StandardCharsets;
import java.util.ArrayList;
import java.util.Arrays;
import java.util.List;
import java.util.Random;
import java.util.function.ToLongFunction;

/**
 * Plays runs of calls, chosen by numbers that are the same each time, on RuleStack and on a second
 * program written from the document alone, and compares every answer and, behind each call, the digest.
 */
public final class AgainstModel {
    private static int wrong = 0;
    private static long calls = 0;
    private static final int[] errorsSeen = new int[8];
    private static int won = 0;
    private static int undecided = 0;
    private static int fullStacks = 0;
    private static int lastMoves = 0;
    private static int thrown = 0;
    private static int refused = 0;

    public static void main(String[] args) {
        int runs = args.length > 0 ? Integer.parseInt(args[0]) : 4000;
        long first = args.length > 1 ? Long.parseLong(args[1]) : 1;
        for (int run = 0; run < runs && wrong < 20; run++) {
            new Run(first + run).play();
        }
        System.out.println(calls + " calls compared; errors " + Arrays.toString(errorsSeen) + ", won " + won
                + ", undecided " + undecided + ", full stacks " + fullStacks + ", 250th moves " + lastMoves
                + ", dice " + thrown + ", exceptions " + refused);
        if (wrong != 0) {
            System.out.println(wrong + " answers are not as due");
            System.exit(1);
        }
    }

    /** One run of at most 512 calls on a fresh object. */
    private static final class Run {
        final long seed;
        final Random random;
        final RuleStack real = new RuleStack();
        final Model model = new Model();
        final List<String> log = new ArrayList<>();
        // Digests use up calls, too; without them games can be longer.
        final boolean sparse;
        int left = 512;

        Run(long seed) {
            this.seed = seed;
            this.random = new Random(seed * 7919);
            this.sparse = random.nextBoolean();
        }

        interface Call {
            long on(Face face);
        }

        long both(String name, Call call) {
            left--;
            calls++;
            String got = answer(call, new Real(real));
            String due = answer(call, model);
            log.add(name + " = " + due);
            refused += due.startsWith("throws") ? 1 : 0;
            if (!sparse || random.nextInt(20) == 0 || left == 1) {
                left--;
                got += " digest " + real.digest();
                due += " digest " + model.digest();
            }
            if (!got.equals(due)) {
                wrong++;
                System.out.println("seed " + seed + ": " + name + " answered " + got + ", due is " + due);
                int from = Math.max(0, log.size() - 60);
                for (String line : log.subList(from, log.size())) {
                    System.out.println("    " + line);
                }
                left = 0;
            }
            return due.startsWith("throws") ? -99 : Long.parseLong(due.split(" ")[0]);
        }

        static String answer(Call call, Face face) {
            try {
                return Long.toString(call.on(face));
            } catch (RuntimeException e) {
                return "throws " + e.getClass().getSimpleName();
            }
        }

        void load(String text) {
            byte[] bytes = text.getBytes(StandardCharsets.ISO_8859_1);
            both("trim 0", f -> f.trim(0));
            for (int i = 0; i < bytes.length; i += 20) {
                int[] n = new int[5];
                for (int k = 0; k < 20; k++) {
                    int b = i + k < bytes.length ? bytes[i + k] & 255 : 32;
                    n[k / 4] = n[k / 4] << 8 | b;
                }
                both("feed", f -> f.feed(n[0], n[1], n[2], n[3], n[4]));
            }
            if (random.nextInt(4) != 0) {
                both("trim", f -> f.trim(Math.min(2000, bytes.length)));
            }
            log.add(text);
            long error = both("compile", f -> f.compile());
            if (error >= 0 && error < 8) {
                errorsSeen[(int) error]++;
            }
            both("errorAt", f -> f.errorAt());
        }

        void play() {
            while (left > 60) {
                String text = new Writer(random).program();
                if (text.length() > 2000) {
                    text = text.substring(0, 2000);
                }
                if ((text.length() + 19) / 20 * (sparse ? 1 : 2) + 10 > left) {
                    break;
                }
                load(text);
                if (!model.compiled && random.nextInt(6) != 0) {
                    continue;
                }
                int games = random.nextInt(3) + 1;
                for (int g = 0; g < games && left > 10; g++) {
                    game(random.nextInt(3) == 0 ? left : random.nextInt(left));
                }
            }
            while (left > 2) {
                if (random.nextBoolean()) {
                    goodMove();
                }
                oneCall();
            }
        }

        void game(int length) {
            int players = random.nextInt(12) == 0 ? random.nextInt(8) - 1 : 2 + random.nextInt(3);
            long z = random.nextInt(3) == 0 ? random.nextLong() : random.nextInt(1000);
            both("begin " + players + " " + z, f -> f.begin(players, z));
            int end = Math.max(4, left - length);
            boolean onlyMoves = random.nextInt(3) == 0;
            while (left > end && (model.state == 0 || random.nextInt(10) != 0)) {
                if (onlyMoves || random.nextInt(3) != 0) {
                    goodMove();
                } else {
                    oneCall();
                }
            }
            won += model.state == 1 ? 1 : 0;
            undecided += model.state == 2 ? 1 : 0;
            lastMoves += model.moves.size() == 250 ? 1 : 0;
        }

        void goodMove() {
            boolean isReply = model.count(9) > 0;
            int kinds = model.count(isReply ? 4 : 3);
            int players = model.count(7);
            fullStacks += model.count(9) == 10 ? 1 : 0;
            if (kinds > 0 && players > 0 && random.nextInt(isReply ? 3 : 5) != 0) {
                int from = random.nextInt(kinds * players);
                for (int i = 0; i < kinds * players; i++) {
                    int which = (from + i) % (kinds * players);
                    int number = which / players;
                    int target = which % players;
                    if (model.can(isReply, number, target)) {
                        move(isReply, number, target);
                        return;
                    }
                }
            }
            long before = model.z();
            both("pass", f -> f.pass());
            thrown += model.z() != before ? 1 : 0;
        }

        void move(boolean isReply, int number, int target) {
            if (isReply) {
                both("reply " + number + " " + target, f -> f.reply(number, target));
            } else {
                both("act " + number + " " + target, f -> f.act(number, target));
            }
        }

        int about(int size) {
            return random.nextInt(size + 3) - 1;
        }

        void oneCall() {
            int a = about(4);
            switch (random.nextInt(17)) {
                case 0: {
                    int what = about(10);
                    both("count " + what, f -> f.count(what));
                    break;
                }
                case 1: {
                    int number = about(Math.max(1, model.count(3)));
                    both("act " + number + " " + a, f -> f.act(number, a));
                    break;
                }
                case 2: {
                    int number = about(Math.max(1, model.count(4)));
                    both("reply " + number + " " + a, f -> f.reply(number, a));
                    break;
                }
                case 3:
                    both("pass", f -> f.pass());
                    break;
                case 4: {
                    boolean isReply = random.nextBoolean();
                    int number = about(Math.max(1, model.count(isReply ? 4 : 3)));
                    both("can " + isReply + " " + number + " " + a, f -> f.can(isReply, number, a) ? 1 : 0);
                    break;
                }
                case 5:
                    both("moves", f -> f.moves());
                    break;
                case 6:
                    both("state", f -> f.state());
                    break;
                case 7: {
                    int what = about(8);
                    both("told " + what, f -> f.told(what));
                    break;
                }
                case 8: {
                    int track = about(Math.max(1, model.count(0)));
                    both("track " + a + " " + track, f -> f.track(a, track));
                    break;
                }
                case 9: {
                    int pool = about(Math.max(1, model.count(1)));
                    both("pool " + pool, f -> f.pool(pool));
                    break;
                }
                case 10: {
                    int place = about(Math.max(1, model.count(9)));
                    both("stack " + place + " " + a, f -> f.stack(place, a));
                    break;
                }
                case 11: {
                    int index = about(Math.max(1, model.count(8)));
                    both("move " + index + " " + a, f -> f.move(index, a));
                    break;
                }
                case 12: {
                    if (random.nextInt(4) == 0) {
                        int moves = random.nextInt(3) == 0 ? about(Math.max(1, model.count(8)))
                                : Math.max(0, model.count(8) - random.nextInt(4));
                        both("back " + moves, f -> f.back(moves));
                    }
                    break;
                }
                case 13:
                    both("z", f -> f.z());
                    break;
                case 14: {
                    int track = about(Math.max(1, model.count(0)));
                    both("mean " + track, f -> Double.doubleToLongBits(f.mean(track)));
                    break;
                }
                case 15: {
                    if (random.nextInt(20) == 0) {
                        int n = random.nextInt(60) - 5;
                        both("trim " + n, f -> f.trim(n));
                    } else if (random.nextInt(20) == 0) {
                        int[] n = random.ints(5).toArray();
                        both("feed", f -> f.feed(n[0], n[1], n[2], n[3], n[4]));
                    }
                    break;
                }
                default:
                    both("errorAt", f -> f.errorAt());
                    break;
            }
        }
    }

    /** Writes programs: mostly good ones, some with one thing amiss, some at a limit. */
    private static final class Writer {
        final Random random;
        final StringBuilder out = new StringBuilder();
        final List<String> tracks = new ArrayList<>();
        final List<String> pools = new ArrayList<>();
        int wordsLeft = 60;

        Writer(Random random) {
            this.random = random;
        }

        boolean chance(int of) {
            return random.nextInt(of) == 0;
        }

        String pick(String... names) {
            return names[random.nextInt(names.length)];
        }

        void put(String words) {
            out.append(words);
            out.append(chance(12) ? "\n" : chance(30) ? "  " : " ");
        }

        String whole(int n) {
            return Integer.toString(n).replace("-", chance(3) ? "- " : "-");
        }

        void range(String kind, String name) {
            int low = random.nextInt(4) == 0 ? -random.nextInt(1000) : random.nextInt(3) - 2;
            int high = chance(5) ? 999 : Math.min(999, low + random.nextInt(40));
            int start = low + random.nextInt(high - low + 1);
            if (chance(60)) {
                low = low - 1000;
            }
            if (chance(60)) {
                high = chance(2) ? low - 1 : 1000;
            }
            if (chance(60)) {
                start = chance(2) ? low - 1 : high + 1;
            }
            put(kind + " " + name + " " + whole(low) + " to " + whole(high) + " at " + whole(start) + ";");
        }

        String program() {
            int style = random.nextInt(20);
            if (style == 0) {
                return limits();
            }
            if (style == 1) {
                return soup();
            }
            List<String> items = new ArrayList<>();
            int trackCount = 1 + random.nextInt(chance(20) ? 7 : 3);
            int poolCount = random.nextInt(chance(20) ? 8 : 3);
            int actCount = 1 + random.nextInt(chance(20) ? 13 : 5);
            int replyCount = random.nextInt(chance(20) ? 10 : 4);
            int phaseCount = 1 + random.nextInt(chance(20) ? 7 : 3);
            int ruleCount = random.nextInt(chance(20) ? 10 : 4);
            for (int i = 0; i < trackCount; i++) {
                range("track", "t" + i);
                tracks.add("t" + i);
            }
            for (int i = 0; i < poolCount; i++) {
                range("pool", "p" + i);
                pools.add("p" + i);
            }
            items.add(taken());
            wordsLeft = 20 + random.nextInt(40);
            for (int i = 0; i < phaseCount; i++) {
                StringBuilder names = new StringBuilder("phase f" + i + ": a" + random.nextInt(actCount));
                for (int k = random.nextInt(4); k > 0; k--) {
                    names.append(chance(2) ? ", " : ",").append("a").append(random.nextInt(actCount));
                }
                put(names + ";");
                items.add(taken());
            }
            for (int i = 0; i < actCount; i++) {
                put("act " + (chance(150) ? "t0" : "a" + i));
                body();
                items.add(taken());
            }
            for (int i = 0; i < replyCount; i++) {
                put("reply " + (chance(150) ? "a0" : "r" + i));
                body();
                items.add(taken());
            }
            for (int i = 0; i < ruleCount; i++) {
                put("rule " + (chance(150) ? "f0" : "u" + i) + " at "
                        + (chance(100) ? "a0" : "f" + random.nextInt(phaseCount)));
                body();
                items.add(taken());
            }
            if (!chance(40)) {
                put("win");
                winExpression();
                put(";");
                items.add(taken());
            }
            StringBuilder text = new StringBuilder(items.remove(0));
            java.util.Collections.shuffle(items, random);
            items.forEach(text::append);
            return chance(6) ? spoilt(text.toString()) : text.toString();
        }

        void winExpression() {
            int kind = random.nextInt(12);
            if (chance(60)) {
                put("die");
            }
            if (kind == 0 || kind > 5) {
                put(pick("0", "round > 49", "my t0 > 998"));
            } else if (kind == 1) {
                put("my " + tracks.get(0) + " > " + random.nextInt(30));
            } else if (kind == 2) {
                put("round > " + random.nextInt(12) + " and me = " + random.nextInt(4));
            } else if (kind == 3) {
                put("their " + tracks.get(0) + " - my " + tracks.get(0) + " >= " + (3 + random.nextInt(20)));
            } else if (kind == 4) {
                put("0 *");
                expression(2, false);
            } else {
                expression(1, false);
            }
        }

        String taken() {
            String text = out.toString();
            out.setLength(0);
            return text;
        }

        String spoilt(String text) {
            StringBuilder b = new StringBuilder(text);
            int at = random.nextInt(b.length());
            switch (random.nextInt(5)) {
                case 0:
                    b.deleteCharAt(at);
                    break;
                case 1:
                    b.insert(at, "()+-;,:=<>*/%a9 \nX\u00e9".charAt(random.nextInt(19)));
                    break;
                case 2:
                    b.setCharAt(at, (char) random.nextInt(256));
                    break;
                case 3:
                    b.setLength(at);
                    break;
                default:
                    int blank = b.indexOf(" ", at);
                    b.insert(blank < 0 ? 0 : blank, pick(" die ", " not ", " end ", " my ", " 12345 ", " abcdefghi ",
                            " abcdefgh ", " win 1; ", " skip; ", " ( ", " all ", " if ", " 0 ", " x "));
                    break;
            }
            return b.toString();
        }

        String limits() {
            switch (random.nextInt(6)) {
                case 0: {
                    StringBuilder b = new StringBuilder("phase f: a; act a do end win ");
                    int depth = 6 + random.nextInt(5);
                    String closing = "";
                    for (int i = 0; i < depth; i++) {
                        String opening = pick("(", "-", "not ", "(1+", "(0-");
                        b.append(opening);
                        closing = opening.startsWith("(") ? ")" + closing : closing;
                    }
                    return b.append("1").append(closing).append(";").toString();
                }
                case 1: {
                    StringBuilder b = new StringBuilder("phase f: a; win 0; track t 0 to 99 at 0; act a do ");
                    int depth = 2 + random.nextInt(4);
                    StringBuilder closing = new StringBuilder();
                    for (int i = 0; i < depth; i++) {
                        b.append(pick("all ", "if 1 then ", "if them then else ", "all add my t 1; "));
                        closing.append("end ");
                    }
                    return b.append("add my t them + 1; add their t 1;").append(closing).append("end").toString();
                }
                case 2: {
                    int n = 425 + random.nextInt(40);
                    StringBuilder b = new StringBuilder("phase f:a;win 1;act a do ");
                    for (int i = 0; i * 2 < n - 12; i++) {
                        b.append("skip;");
                    }
                    return b.append(pick("end", "end ", " end win", "")).toString().replace("skip", pick("skip", "again"));
                }
                case 3: {
                    StringBuilder b = new StringBuilder("phase f:a;act a do end win 1");
                    int n = 425 + random.nextInt(30);
                    for (int i = 14; i < n; i++) {
                        b.append(i % 2 == 0 ? "+" : "2");
                    }
                    return b.append(pick(";", ";;", "", "~")).toString();
                }
                case 4: {
                    String name = pick("abcdefgh", "abcdefghi", "a1234567", "a12345678");
                    String number = pick("999", "0999", "00999", "1", "0001", "00001");
                    return "track " + name + " 0 to " + number + " at 0; phase f: a; act a do add my " + name
                            + " " + number + "; end win my " + name + pick(">=", "=", ">", "<>", "<=", "= =") + number + ";";
                }
                default: {
                    int n = 5 + random.nextInt(9);
                    String kind = pick("track", "pool", "phase", "act", "reply", "rule", "win");
                    StringBuilder b = new StringBuilder("phase f: a; act a do end ");
                    for (int i = 0; i < n; i++) {
                        b.append(kind).append(kind.equals("win") ? " " : " x" + i);
                        b.append(kind.equals("track") || kind.equals("pool") ? " 0 to 1 at 1;"
                                : kind.equals("phase") ? ":a;" : kind.equals("rule") ? " at f do end "
                                : kind.equals("win") ? "1;" : " do end ");
                    }
                    return kind.equals("win") ? b.toString() : b.append("win 1;").toString();
                }
            }
        }

        String soup() {
            String[] words = {"track", "pool", "phase", "act", "reply", "rule", "win", "x", "y", "1", "20", "to", "at",
                "when", "do", "end", "set", "add", "if", "then", "else", "cancel", "again", "skip", "all", "my",
                "their", "die", "round", "(", ")", ";", ":", ",", "=", "<", ">", "<=", ">=", "<>", "+", "-", "*", "/"};
            StringBuilder b = new StringBuilder(pick("", "act x do ", "win ", "track x 0 to 9 at 3; win my x ", "phase x: "));
            for (int i = random.nextInt(20); i > 0; i--) {
                b.append(pick(words)).append(chance(4) ? "" : " ");
            }
            return b.toString();
        }

        void body() {
            if (chance(3)) {
                put("when");
                if (chance(2)) {
                    put(pick("me <> them", "them <> me", "depth < 3", "me = them", "round > 1", "depth >= 1",
                            "my t0 > 0", "their t0 <= 3", "not me", "players > 2"));
                } else {
                    expression(1, chance(60));
                }
            }
            put("do");
            statements(0);
            put("end");
        }

        void statements(int nesting) {
            for (int n = 1 + random.nextInt(3); n > 0; n--) {
                statement(nesting);
            }
        }

        String place() {
            if (chance(150)) {
                return pick("nix", "my nix", "their a0", "t0", "my p0");
            }
            int kind = random.nextInt(pools.isEmpty() ? 2 : 3);
            if (kind == 2) {
                return pools.get(random.nextInt(pools.size()));
            }
            return (kind == 0 ? "my " : "their ") + tracks.get(random.nextInt(tracks.size()));
        }

        void statement(int nesting) {
            wordsLeft--;
            int kind = random.nextInt(16);
            if (wordsLeft > 0 && kind < 2 && (nesting < 4 || chance(10))) {
                put("all");
                statements(nesting + 1);
                put("end");
            } else if (wordsLeft > 0 && kind < 5 && (nesting < 4 || chance(10))) {
                put("if");
                expression(0, true);
                put("then");
                statements(nesting + 1);
                if (chance(2)) {
                    put("else");
                    statements(nesting + 1);
                }
                put("end");
            } else if (kind == 5) {
                put("cancel;");
            } else if (kind == 6) {
                put("again;");
            } else if (kind == 7) {
                put("skip;");
            } else {
                put(chance(3) ? "set" : "add");
                put(place());
                expression(0, true);
                put(";");
            }
        }

        void expression(int depth, boolean dice) {
            wordsLeft--;
            if (wordsLeft > 0 && depth < 3 && chance(2)) {
                expression(depth + 1, dice);
                put(pick("+", "-", "*", "/", "%", "=", "<>", "<", ">", "<=", ">=", "and", "or", "+", "-", "+"));
                factor(depth + 1, dice);
            } else {
                factor(depth, dice);
            }
        }

        void factor(int depth, boolean dice) {
            wordsLeft--;
            switch (random.nextInt(wordsLeft > 0 ? 12 : 8)) {
                case 0:
                case 1:
                    put(Integer.toString(chance(10) ? random.nextInt(10000) : random.nextInt(8)));
                    break;
                case 2:
                case 3:
                case 4:
                    put(place());
                    break;
                case 5:
                    put(pick("round", "depth", "players"));
                    break;
                case 6:
                    put("me");
                    break;
                case 7:
                    put("them");
                    break;
                case 8:
                    put("(");
                    if (depth < 8) {
                        expression(depth + 1, dice);
                    } else {
                        put("1");
                    }
                    put(")");
                    break;
                case 9:
                    put(pick("-", "not"));
                    factor(depth + 1, dice);
                    break;
                default:
                    put(dice ? "die" : "-");
                    factor(depth + 1, dice);
                    break;
            }
        }
    }

    /** The public face, as both programs have it. */
    private interface Face {
        int feed(int a, int b, int c, int d, int e);

        int trim(int n);

        int compile();

        int errorAt();

        int count(int what);

        int begin(int players, long z);

        int act(int act, int target);

        int reply(int reply, int target);

        int pass();

        boolean can(boolean isReply, int number, int target);

        int moves();

        int state();

        int told(int what);

        int track(int player, int track);

        int pool(int pool);

        int stack(int place, int what);

        int move(int index, int what);

        int back(int moves);

        long z();

        double mean(int track);

        long digest();
    }

    private record Real(RuleStack x) implements Face {
        public int feed(int a, int b, int c, int d, int e) {
            return x.feed(a, b, c, d, e);
        }

        public int trim(int n) {
            return x.trim(n);
        }

        public int compile() {
            return x.compile();
        }

        public int errorAt() {
            return x.errorAt();
        }

        public int count(int what) {
            return x.count(what);
        }

        public int begin(int players, long z) {
            return x.begin(players, z);
        }

        public int act(int act, int target) {
            return x.act(act, target);
        }

        public int reply(int reply, int target) {
            return x.reply(reply, target);
        }

        public int pass() {
            return x.pass();
        }

        public boolean can(boolean isReply, int number, int target) {
            return x.can(isReply, number, target);
        }

        public int moves() {
            return x.moves();
        }

        public int state() {
            return x.state();
        }

        public int told(int what) {
            return x.told(what);
        }

        public int track(int player, int track) {
            return x.track(player, track);
        }

        public int pool(int pool) {
            return x.pool(pool);
        }

        public int stack(int place, int what) {
            return x.stack(place, what);
        }

        public int move(int index, int what) {
            return x.move(index, what);
        }

        public int back(int moves) {
            return x.back(moves);
        }

        public long z() {
            return x.z();
        }

        public double mean(int track) {
            return x.mean(track);
        }

        public long digest() {
            return x.digest();
        }
    }

    /** What ends the reading of a text: an error and its position. */
    private static final class Fault extends RuntimeException {
        private static final long serialVersionUID = 1L;
        final int error;
        final int position;

        Fault(int error, int position) {
            this.error = error;
            this.position = position;
        }
    }

    private record Token(String text, int position) {
    }

    private record Place(char whose, Token name) {
    }

    /** A part of an expression: what it does, and the words that the meaning has to look at. */
    private static final class Expression {
        ToLongFunction<Scene> value;
        final List<Object> looked = new ArrayList<>();
    }

    private interface Statement {
        void run(Scene scene);
    }

    /** Who does something to whom. */
    private record Scene(Model model, int owner, int target) {
    }

    private static final class Item {
        String kind;
        Token keyword;
        Token name;
        final List<Token> acts = new ArrayList<>();
        Token phase;
        final int[] wholes = new int[3];
        final Token[] wholeTokens = new Token[3];
        Expression when;
        final List<Object> looked = new ArrayList<>();
        List<Statement> deeds;
    }

    private static final class Stacked {
        final int sort;
        final int number;
        final int owner;
        final int target;

        Stacked(int sort, int number, int owner, int target) {
            this.sort = sort;
            this.number = number;
            this.owner = owner;
            this.target = target;
        }
    }

    /** A tree of the program, built by plain descent, with a Fault for the first error. */
    private static final class Parser {
        static final List<String> KEYWORDS = Arrays.asList(("track pool to at phase act reply rule win when do end set "
                + "add if then else cancel again skip all my their die round depth me them players and or not").split(" "));
        final String text;
        final List<Token> tokens = new ArrayList<>();
        int at = 0;

        Parser(String text) {
            this.text = text;
        }

        /** The token at the place, read only when it is asked for. */
        Token token(int place) {
            while (tokens.size() <= place) {
                int from = tokens.isEmpty() ? 0
                        : tokens.get(tokens.size() - 1).position + tokens.get(tokens.size() - 1).text.length();
                while (from < text.length() && (text.charAt(from) == ' ' || text.charAt(from) == '\n')) {
                    from++;
                }
                if (from == text.length()) {
                    return new Token("", from);
                }
                if (tokens.size() == 450) {
                    throw new Fault(1, from);
                }
                java.util.regex.Matcher m = java.util.regex.Pattern
                        .compile("[a-z][a-z0-9]*|[0-9]+|<=|>=|<>|[(),;:=+\\-*/%<>]").matcher(text);
                if (!m.find(from) || m.start() != from) {
                    throw new Fault(1, from);
                }
                String found = m.group();
                if (Character.isLetter(found.charAt(0)) && found.length() > 8
                        || Character.isDigit(found.charAt(0)) && found.length() > 4) {
                    throw new Fault(1, from);
                }
                tokens.add(new Token(found, from));
            }
            return tokens.get(place);
        }

        String now() {
            return token(at).text;
        }

        boolean isNow(String... words) {
            return Arrays.asList(words).contains(now());
        }

        Token take() {
            return token(at++);
        }

        Token want(String word) {
            if (!now().equals(word)) {
                throw new Fault(1, token(at).position);
            }
            return take();
        }

        boolean isName() {
            return now().matches("[a-z][a-z0-9]*") && !KEYWORDS.contains(now());
        }

        Token name() {
            if (!isName()) {
                throw new Fault(1, token(at).position);
            }
            return take();
        }

        Fault here() {
            return new Fault(1, token(at).position);
        }

        List<Item> program() {
            List<Item> items = new ArrayList<>();
            do {
                items.add(item());
            } while (!now().isEmpty());
            return items;
        }

        Item item() {
            Item item = new Item();
            if (!isNow("track", "pool", "phase", "act", "reply", "rule", "win")) {
                throw here();
            }
            item.keyword = take();
            item.kind = item.keyword.text;
            if (item.kind.equals("win")) {
                item.when = expression(0);
                want(";");
                return item;
            }
            item.name = name();
            switch (item.kind) {
                case "track":
                case "pool":
                    whole(item, 0);
                    want("to");
                    whole(item, 1);
                    want("at");
                    whole(item, 2);
                    want(";");
                    break;
                case "phase":
                    want(":");
                    item.acts.add(name());
                    while (isNow(",")) {
                        take();
                        item.acts.add(name());
                    }
                    want(";");
                    break;
                default:
                    if (item.kind.equals("rule")) {
                        want("at");
                        item.phase = name();
                    }
                    if (isNow("when")) {
                        take();
                        item.when = expression(0);
                    }
                    want("do");
                    item.deeds = statements(item, 0);
                    want("end");
                    break;
            }
            return item;
        }

        void whole(Item item, int n) {
            int sign = 1;
            if (isNow("-")) {
                take();
                sign = -1;
            }
            if (!now().matches("[0-9]+")) {
                throw here();
            }
            item.wholeTokens[n] = take();
            item.wholes[n] = sign * Integer.parseInt(item.wholeTokens[n].text);
        }

        List<Statement> statements(Item item, int nesting) {
            List<Statement> all = new ArrayList<>();
            while (isNow("set", "add", "if", "all", "cancel", "again", "skip")) {
                all.add(statement(item, nesting));
            }
            return all;
        }

        static void runAll(List<Statement> statements, Scene scene) {
            for (Statement statement : statements) {
                statement.run(scene);
            }
        }

        Statement statement(Item item, int nesting) {
            if (isNow("if", "all") && nesting == 4) {
                throw here();
            }
            String first = take().text;
            switch (first) {
                case "set":
                case "add": {
                    Place place = place();
                    item.looked.add(place);
                    Expression e = expression(0);
                    item.looked.addAll(e.looked);
                    want(";");
                    boolean adds = first.equals("add");
                    return scene -> {
                        long value = e.value.applyAsLong(scene);
                        scene.model.put(scene, place, adds ? scene.model.get(scene, place) + value : value);
                    };
                }
                case "if": {
                    Expression e = expression(0);
                    item.looked.addAll(e.looked);
                    want("then");
                    List<Statement> yes = statements(item, nesting + 1);
                    List<Statement> no = new ArrayList<>();
                    if (isNow("else")) {
                        take();
                        no.addAll(statements(item, nesting + 1));
                    }
                    want("end");
                    return scene -> runAll(e.value.applyAsLong(scene) != 0 ? yes : no, scene);
                }
                case "all": {
                    List<Statement> inner = statements(item, nesting + 1);
                    want("end");
                    return scene -> {
                        int n = scene.model.players;
                        for (int k = 1; k <= n; k++) {
                            runAll(inner, new Scene(scene.model, scene.owner, (scene.owner + k) % n));
                        }
                    };
                }
                default:
                    want(";");
                    return scene -> scene.model.effect(first);
            }
        }

        Place place() {
            if (isNow("my", "their")) {
                char whose = take().text.charAt(0);
                return new Place(whose, name());
            }
            return new Place('p', name());
        }

        Expression expression(int depth) {
            return leftGrouped(depth, 0);
        }

        static final String[][] LEVELS = {{"or"}, {"and"}, {"=", "<>", "<", ">", "<=", ">="}, {"+", "-"}, {"*", "/", "%"}};

        Expression leftGrouped(int depth, int level) {
            if (level == LEVELS.length) {
                return factor(depth);
            }
            Expression left = leftGrouped(depth, level + 1);
            while (isNow(LEVELS[level])) {
                String operator = take().text;
                Expression a = left;
                Expression b = leftGrouped(depth, level + 1);
                Expression both = new Expression();
                both.looked.addAll(a.looked);
                both.looked.addAll(b.looked);
                both.value = scene -> {
                    long x = a.value.applyAsLong(scene);
                    long y = b.value.applyAsLong(scene);
                    return reckon(operator, x, y);
                };
                left = both;
                if (level == 2) {
                    break;
                }
            }
            return left;
        }

        static long reckon(String operator, long x, long y) {
            switch (operator) {
                case "or":
                    return x != 0 || y != 0 ? 1 : 0;
                case "and":
                    return x != 0 && y != 0 ? 1 : 0;
                case "=":
                    return x == y ? 1 : 0;
                case "<>":
                    return x != y ? 1 : 0;
                case "<":
                    return x < y ? 1 : 0;
                case ">":
                    return x > y ? 1 : 0;
                case "<=":
                    return x <= y ? 1 : 0;
                case ">=":
                    return x >= y ? 1 : 0;
                case "+":
                    return x + y;
                case "-":
                    return x - y;
                case "*":
                    return x * y;
                case "/":
                    return y == 0 ? 0 : x / y;
                default:
                    return y == 0 ? 0 : x % y;
            }
        }

        Expression factor(int depth) {
            Expression e = new Expression();
            if (isNow("(", "-", "not", "die")) {
                if (depth == 8) {
                    throw here();
                }
                Token first = take();
                if (first.text.equals("(")) {
                    e = expression(depth + 1);
                    want(")");
                    return e;
                }
                if (first.text.equals("die")) {
                    e.looked.add(first);
                }
                Expression operand = factor(depth + 1);
                e.looked.addAll(operand.looked);
                e.value = scene -> {
                    long x = operand.value.applyAsLong(scene);
                    return first.text.equals("-") ? -x : first.text.equals("not") ? (x == 0 ? 1 : 0) : scene.model.die(x);
                };
                return e;
            }
            if (now().matches("[0-9]+")) {
                long n = Long.parseLong(take().text);
                e.value = scene -> n;
            } else if (isNow("round", "depth", "me", "them", "players")) {
                String word = take().text;
                e.value = scene -> word.equals("round") ? scene.model.round
                        : word.equals("depth") ? scene.model.stack.size()
                        : word.equals("me") ? scene.owner : word.equals("them") ? scene.target : scene.model.players;
            } else if (isNow("my", "their") || isName()) {
                Place place = place();
                e.looked.add(place);
                e.value = scene -> scene.model.get(scene, place);
            } else {
                throw here();
            }
            return e;
        }
    }

    /** The second program. */
    private static final class Model implements Face {
        static final List<String> KINDS = Arrays.asList("track", "pool", "phase", "act", "reply", "rule", "win");
        static final int[] MOST = {6, 6, 6, 12, 8, 8, 1};
        byte[] tape = new byte[0];
        int errorAt = -1;
        List<List<Item>> items = empty();
        boolean compiled = false;

        int state = -1;
        int players;
        int[][] tracks;
        int[] pools;
        List<Stacked> stack = new ArrayList<>();
        List<int[]> moves = new ArrayList<>();
        long z;
        long firstZ;
        int round;
        int turn;
        int phase;
        int asked;
        int winner;
        boolean skip;
        boolean again;
        int passes;

        static List<List<Item>> empty() {
            List<List<Item>> all = new ArrayList<>();
            for (int i = 0; i < 7; i++) {
                all.add(new ArrayList<>());
            }
            return all;
        }

        public int feed(int a, int b, int c, int d, int e) {
            if (tape.length > 1980) {
                throw new IllegalStateException();
            }
            java.nio.ByteBuffer more = java.nio.ByteBuffer.allocate(tape.length + 20);
            more.put(tape).putInt(a).putInt(b).putInt(c).putInt(d).putInt(e);
            tape = more.array();
            return tape.length;
        }

        public int trim(int n) {
            if (n < 0 || n > tape.length) {
                throw new IllegalArgumentException();
            }
            tape = Arrays.copyOf(tape, n);
            return n;
        }

        public int compile() {
            String text = new String(tape, StandardCharsets.ISO_8859_1);
            tape = new byte[0];
            items = empty();
            compiled = false;
            state = -1;
            stack.clear();
            moves.clear();
            players = 0;
            z = 0;
            try {
                List<Item> all = new Parser(text).program();
                List<List<Item>> sorted = empty();
                for (Item item : all) {
                    meaning(item, all, sorted);
                }
                if (sorted.get(2).isEmpty() || sorted.get(6).isEmpty()) {
                    throw new Fault(7, text.length());
                }
                items = sorted;
                compiled = true;
                errorAt = -1;
                return 0;
            } catch (Fault fault) {
                errorAt = fault.position;
                return fault.error;
            }
        }

        static boolean has(List<Item> list, Token name) {
            return indexOf(list, name) >= 0;
        }

        static int indexOf(List<Item> list, Token name) {
            for (int i = 0; i < list.size(); i++) {
                if (list.get(i).name.text.equals(name.text)) {
                    return i;
                }
            }
            return -1;
        }

        static List<Item> only(List<Item> all, String kind) {
            List<Item> some = new ArrayList<>(all);
            some.removeIf(item -> !item.kind.equals(kind));
            return some;
        }

        void meaning(Item item, List<Item> all, List<List<Item>> ahead) {
            int kind = KINDS.indexOf(item.kind);
            if (ahead.get(kind).size() == MOST[kind]) {
                throw new Fault(4, item.keyword.position);
            }
            for (int k = 0; item.name != null && k < 6; k++) {
                if (has(ahead.get(k), item.name)) {
                    throw new Fault(3, item.name.position);
                }
            }
            if (kind < 2) {
                int[] w = item.wholes;
                int bad = w[0] < -999 || w[0] > 999 ? 0 : w[1] < w[0] || w[1] > 999 ? 1 : w[2] < w[0] || w[2] > w[1] ? 2 : -1;
                if (bad >= 0) {
                    throw new Fault(5, item.wholeTokens[bad].position);
                }
            }
            for (Token act : item.acts) {
                if (!has(only(all, "act"), act)) {
                    throw new Fault(2, act.position);
                }
            }
            if (item.phase != null && !has(only(all, "phase"), item.phase)) {
                throw new Fault(2, item.phase.position);
            }
            if (item.when != null) {
                lookAt(item.when.looked, false, ahead);
            }
            lookAt(item.looked, true, ahead);
            ahead.get(kind).add(item);
        }

        static void lookAt(List<Object> looked, boolean dice, List<List<Item>> ahead) {
            for (Object o : looked) {
                if (o instanceof Token die && !dice) {
                    throw new Fault(6, die.position);
                }
                if (o instanceof Place place && !has(ahead.get(place.whose == 'p' ? 1 : 0), place.name)) {
                    throw new Fault(2, place.name.position);
                }
            }
        }

        public int errorAt() {
            return errorAt;
        }

        public int count(int what) {
            if (what < 0 || what > 9) {
                throw new IndexOutOfBoundsException();
            }
            return what < 6 ? items.get(what).size() : what == 6 ? tape.length : what == 7 ? players
                    : what == 8 ? moves.size() : stack.size();
        }

        int behind(int player) {
            return (player + 1) % players;
        }

        long get(Scene scene, Place place) {
            if (place.whose == 'p') {
                return pools[indexOf(items.get(1), place.name)];
            }
            return tracks[place.whose == 'm' ? scene.owner : scene.target][indexOf(items.get(0), place.name)];
        }

        void put(Scene scene, Place place, long value) {
            boolean isPool = place.whose == 'p';
            int n = indexOf(items.get(isPool ? 1 : 0), place.name);
            int[] w = items.get(isPool ? 1 : 0).get(n).wholes;
            int kept = (int) Math.max(w[0], Math.min(w[1], value));
            if (isPool) {
                pools[n] = kept;
            } else {
                tracks[place.whose == 'm' ? scene.owner : scene.target][n] = kept;
            }
        }

        long die(long sides) {
            z = z * 6364136223846793005L + 1442695040888963407L;
            return 1 + (z >>> 33) % Math.max(1, Math.min(1000, sides));
        }

        void effect(String word) {
            if (word.equals("again")) {
                again = true;
            } else if (word.equals("skip")) {
                skip = true;
            } else if (!stack.isEmpty()) {
                stack.remove(stack.size() - 1);
            }
        }

        boolean isTrue(Expression e, int owner, int target) {
            return e == null || e.value.applyAsLong(new Scene(this, owner, target)) != 0;
        }

        void over(int how) {
            state = how;
            asked = -1;
            passes = 0;
        }

        /** Whether somebody has won; the game is over then. */
        boolean look() {
            for (int k = 0; k < players; k++) {
                int player = (turn + k) % players;
                if (isTrue(items.get(6).get(0).when, player, behind(player))) {
                    over(1);
                    winner = player;
                    return true;
                }
            }
            return false;
        }

        /** Begins a phase; whether the turn is over by it. */
        boolean beginPhase() {
            for (Item rule : items.get(5)) {
                if (indexOf(items.get(2), rule.phase) == phase && isTrue(rule.when, turn, behind(turn))) {
                    Parser.runAll(rule.deeds, new Scene(this, turn, behind(turn)));
                    if (look()) {
                        return false;
                    }
                }
            }
            return skip;
        }

        void endTurn(int alreadyBegun) {
            int next = again ? turn : behind(turn);
            int nextRound = !again && next == 0 ? round + 1 : round;
            if (nextRound == 51 || alreadyBegun == 100) {
                over(2);
                return;
            }
            round = nextRound;
            turn = next;
            phase = 0;
            skip = false;
            again = false;
            if (beginPhase()) {
                endTurn(alreadyBegun + 1);
            }
        }

        public int begin(int players, long z) {
            if (players < 2 || players > 4) {
                throw new IllegalArgumentException();
            }
            if (!compiled) {
                throw new IllegalStateException();
            }
            this.players = players;
            this.z = z;
            firstZ = z;
            tracks = new int[players][items.get(0).size()];
            for (int[] row : tracks) {
                for (int i = 0; i < row.length; i++) {
                    row[i] = items.get(0).get(i).wholes[2];
                }
            }
            pools = items.get(1).stream().mapToInt(item -> item.wholes[2]).toArray();
            stack.clear();
            moves.clear();
            state = 0;
            round = 1;
            turn = 0;
            phase = 0;
            asked = -1;
            winner = -1;
            skip = false;
            again = false;
            passes = 0;
            if (beginPhase()) {
                endTurn(0);
            }
            return state;
        }

        boolean isThere(boolean isReply, int number, int target) {
            return number >= 0 && number < items.get(isReply ? 4 : 3).size() && target >= 0 && target < players;
        }

        public boolean can(boolean isReply, int number, int target) {
            if (!isThere(isReply, number, target)) {
                throw new IndexOutOfBoundsException();
            }
            if (state != 0) {
                return false;
            }
            if (isReply) {
                return !stack.isEmpty() && stack.size() < 10 && isTrue(items.get(4).get(number).when, asked, target);
            }
            Item act = items.get(3).get(number);
            boolean inPhase = items.get(2).get(phase).acts.stream().anyMatch(name -> name.text.equals(act.name.text));
            return stack.isEmpty() && inPhase && isTrue(act.when, turn, target);
        }

        void ended() {
            if (moves.size() == 250 && state == 0) {
                over(2);
            }
        }

        int put(boolean isReply, int number, int target) {
            if (!isThere(isReply, number, target)) {
                throw new IndexOutOfBoundsException();
            }
            if (!can(isReply, number, target)) {
                throw new IllegalStateException();
            }
            int who = isReply ? asked : turn;
            moves.add(new int[] {isReply ? 1 : 0, number, target, who});
            stack.add(new Stacked(isReply ? 1 : 0, number, who, target));
            asked = behind(who);
            passes = 0;
            ended();
            return stack.size();
        }

        public int act(int act, int target) {
            return put(false, act, target);
        }

        public int reply(int reply, int target) {
            return put(true, reply, target);
        }

        public int pass() {
            if (state != 0) {
                throw new IllegalStateException();
            }
            moves.add(new int[] {2, -1, -1, stack.isEmpty() ? turn : asked});
            if (stack.isEmpty()) {
                boolean turnOver = true;
                if (phase + 1 < items.get(2).size()) {
                    phase++;
                    turnOver = beginPhase();
                }
                if (turnOver) {
                    endTurn(0);
                }
            } else {
                passes++;
                asked = behind(asked);
                if (passes == players - 1) {
                    Stacked top = stack.remove(stack.size() - 1);
                    Parser.runAll(items.get(3 + top.sort).get(top.number).deeds, new Scene(this, top.owner, top.target));
                    passes = 0;
                    if (!look()) {
                        asked = stack.isEmpty() ? -1 : behind(stack.get(stack.size() - 1).owner);
                        if (stack.isEmpty() && skip) {
                            endTurn(0);
                        }
                    }
                }
            }
            ended();
            return state;
        }

        public int moves() {
            if (state != 0) {
                return 0;
            }
            int n = 1;
            for (int target = 0; target < players; target++) {
                for (int i = 0; i < items.get(3).size(); i++) {
                    n += can(false, i, target) ? 1 : 0;
                }
                for (int i = 0; i < items.get(4).size(); i++) {
                    n += can(true, i, target) ? 1 : 0;
                }
            }
            return n;
        }

        public int state() {
            return state;
        }

        public int told(int what) {
            if (what < 0 || what > 7) {
                throw new IndexOutOfBoundsException();
            }
            int[] all = {round, turn, phase, asked, state == 1 ? winner : -1, skip ? 1 : 0, again ? 1 : 0, passes};
            return state == -1 ? -1 : all[what];
        }

        public int track(int player, int track) {
            if (player < 0 || player >= players || track < 0 || track >= items.get(0).size()) {
                throw new IndexOutOfBoundsException();
            }
            return tracks[player][track];
        }

        public int pool(int pool) {
            if (pool < 0 || pool >= items.get(1).size()) {
                throw new IndexOutOfBoundsException();
            }
            return state == -1 ? items.get(1).get(pool).wholes[2] : pools[pool];
        }

        public int stack(int place, int what) {
            if (place < 0 || place >= stack.size() || what < 0 || what > 3) {
                throw new IndexOutOfBoundsException();
            }
            Stacked s = stack.get(place);
            return what == 0 ? s.sort : what == 1 ? s.number : what == 2 ? s.owner : s.target;
        }

        public int move(int index, int what) {
            if (index < 0 || index >= moves.size() || what < 0 || what > 3) {
                throw new IndexOutOfBoundsException();
            }
            return moves.get(index)[what];
        }

        public int back(int left) {
            if (left < 0 || left > moves.size()) {
                throw new IllegalArgumentException();
            }
            if (state == -1) {
                throw new IllegalStateException();
            }
            List<int[]> kept = new ArrayList<>(moves.subList(0, left));
            begin(players, firstZ);
            for (int[] m : kept) {
                if (m[0] == 2) {
                    pass();
                } else {
                    put(m[0] == 1, m[1], m[2]);
                }
            }
            return state;
        }

        public long z() {
            return state == -1 ? 0 : z;
        }

        public double mean(int track) {
            if (track < 0 || track >= items.get(0).size()) {
                throw new IndexOutOfBoundsException();
            }
            double sum = 0;
            for (int p = 0; p < players; p++) {
                sum += tracks[p][track];
            }
            return players == 0 ? 0 : sum / players;
        }

        public long digest() {
            List<Long> all = new ArrayList<>();
            for (int i = 0; i < 10; i++) {
                all.add((long) count(i));
            }
            all.add((long) state);
            for (int i = 0; i < 8; i++) {
                all.add((long) told(i));
            }
            all.add(z());
            for (int p = 0; p < players; p++) {
                for (int t = 0; t < items.get(0).size(); t++) {
                    all.add((long) track(p, t));
                }
            }
            for (int p = 0; state != -1 && p < items.get(1).size(); p++) {
                all.add((long) pool(p));
            }
            for (int i = 0; i < stack.size(); i++) {
                for (int k = 0; k < 4; k++) {
                    all.add((long) stack(i, k));
                }
            }
            for (int[] m : moves) {
                for (int n : m) {
                    all.add((long) n);
                }
            }
            long d = 419;
            for (long x : all) {
                d = d * 31 + x;
            }
            return d;
        }
    }
}

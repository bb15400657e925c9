import java.lang.reflect.Method;
import java.lang.reflect.Modifier;
import java.util.ArrayList;
import java.util.Collections;
import java.util.List;

/**
 * The sentences of the document that name no boundary and have no test in the other classes: what it is, the face,
 * the terms, and what the arguments and answers of the promises mean.
 */
public final class OtherSentencesTest extends Scripts {
    private static final String[] FACE = {
        "public RuleStack();",
        "public int feed(int a, int b, int c, int d, int e) throws IllegalStateException;",
        "public int trim(int n) throws IllegalArgumentException;",
        "public int compile();",
        "public int errorAt();",
        "public int count(int what) throws IndexOutOfBoundsException;",
        "public int begin(int players, long z) throws IllegalArgumentException, IllegalStateException;",
        "public int act(int act, int target) throws IndexOutOfBoundsException, IllegalStateException;",
        "public int reply(int reply, int target) throws IndexOutOfBoundsException, IllegalStateException;",
        "public int pass() throws IllegalStateException;",
        "public boolean can(boolean isReply, int number, int target) throws IndexOutOfBoundsException;",
        "public int moves();",
        "public int state();",
        "public int told(int what) throws IndexOutOfBoundsException;",
        "public int track(int player, int track) throws IndexOutOfBoundsException;",
        "public int pool(int pool) throws IndexOutOfBoundsException;",
        "public int stack(int place, int what) throws IndexOutOfBoundsException;",
        "public int move(int index, int what) throws IndexOutOfBoundsException;",
        "public int back(int moves) throws IllegalArgumentException, IllegalStateException;",
        "public long z();",
        "public double mean(int track) throws IndexOutOfBoundsException;",
        "public long digest();"};
    private static final String KEYWORDS = "track pool to at phase act reply rule win when do end set add if then else cancel again skip "
        + "all my their die round depth me them players and or not";
    private static final String DUEL = "track hp 0 to 20 at 10; track gold 0 to 99 at 2; pool pot 0 to 50 at 5; "
        + "phase income: rest; phase main: hit, rest; act rest do add my gold 1; end act hit when my gold > 1 do add my gold -2; "
        + "add their hp -4; end reply block when my gold >= 1 do add my gold -1; cancel; end reply raise do add pot my gold; end "
        + "rule pay at income do add my gold 3; end rule luck at main when pot > 20 do add their hp -die 3; end win their hp = 0;";

    public static void main(String[] args) {
        runAll(OtherSentencesTest.class);
    }

    // ---- what it is

    static void section0WhatItIs() {
        sentence("What it is", "A table for games whose rules are told in a small language: tracks of the players and pools of the table, "
            + "phases of a turn, acts that can be done in them, replies that answer acts and other replies, rules at the beginning of phases, "
            + "and how a game is won.");
        RuleStack x = good(DUEL);
        run(x, """
            begin 2 7 = 0
            track 0 1 = 5
            canAct 1 1 = false
            canAct 0 0 = true
            pass = 0
            told 2 = 1
            act 1 1 = 1
            reply 0 0 = 2
            reply 0 0 = 3
            pass = 0
            count 9 = 1
            track 0 1 = 4
            track 1 1 = 2
            reply 1 0 = 2
            pass = 0
            pool 0 = 7
            pass = 0
            track 0 1 = 2
            track 1 0 = 6
            act 1 1 = 1
            pass = 0
            track 1 0 = 2
            track 0 1 = 0
            canAct 1 1 = false
            pass = 0
            told 1 = 1
            pass = 0
            pass = 0
            told 1 = 0
            told 0 = 2
            track 0 1 = 3
            pass = 0
            act 1 1 = 1
            reply 1 1 = 2
            pass = 0
            pool 0 = 12
            pass = 1
            track 1 0 = 0
            told 4 = 0
            """);
    }

    static void section0TheFace() {
        sentence("The public face", String.join(" .. ", FACE));
        List<String> found = new ArrayList<>();
        for (Method m : RuleStack.class.getDeclaredMethods()) {
            if (!Modifier.isPrivate(m.getModifiers())) {
                due(m.getName() + " is of an object", "" + Modifier.isStatic(m.getModifiers()), "false");
                found.add(shown(m.getReturnType().getSimpleName() + " " + m.getName(), m.getParameterTypes(), m.getExceptionTypes()));
            }
        }
        List<String> wanted = new ArrayList<>();
        for (int i = 1; i < FACE.length; i++) {
            wanted.add(FACE[i].replaceAll("^public |;$", "").replaceAll("(int|long|boolean) \\w+(?=[,)])", "$1"));
        }
        Collections.sort(found);
        Collections.sort(wanted);
        due("the methods and their exceptions", "" + found, "" + wanted);
        due("constructors", "" + RuleStack.class.getConstructors().length + " of " + RuleStack.class.getDeclaredConstructors().length, "1 of 1");
        due("the class", Modifier.toString(RuleStack.class.getModifiers()), "public final");
    }

    private static String shown(String head, Class<?>[] parameters, Class<?>[] exceptions) {
        return head + "(" + names(parameters) + ")" + (exceptions.length == 0 ? "" : " throws " + names(exceptions));
    }

    private static String names(Class<?>[] types) {
        List<String> all = new ArrayList<>();
        for (Class<?> type : types) {
            all.add(type.getSimpleName());
        }
        return String.join(", ", all);
    }

    // ---- the terms

    static void section0DoneFromAbove() {
        sentence("Terms", "Acts and replies come onto a stack, and are done from above when nobody answers any more");
        RuleStack x = good("pool s 0 to 999 at 0; pool n 0 to 9 at 0; phase p:x; act x do set s s * 10 + 1; end reply y do set s s * 10 + 2; end "
            + "reply z do set s s * 10 + 3; end win 0;");
        // The one that came last is done first; what was answered waits until the answer is done.
        run(x, """
            begin 3 0 = 0
            act 0 1 = 1
            pass = 0
            reply 1 0 = 2
            pass = 0
            reply 0 2 = 3
            pool 0 = 0
            pass = 0
            pool 0 = 0
            pass = 0
            pool 0 = 2
            count 9 = 2
            pass = 0
            pass = 0
            pool 0 = 23
            count 9 = 1
            pass = 0
            pool 0 = 23
            pass = 0
            pool 0 = 231
            count 9 = 0
            """);
        // Between two that are done, there can be answers anew.
        run(x, "begin 2 0 = 0\nact 0 1 = 1\nreply 0 0 = 2\npass = 0\npool 0 = 2\nreply 1 0 = 2\npass = 0\npool 0 = 23\npass = 0\npool 0 = 231");
    }

    static void section0PlayedAgain() {
        sentence("Terms", "games are recorded, taken back and played again.");
        RuleStack x = good(DUEL);
        String[] moves = {"pass", "act 1 1", "reply 1 0", "reply 0 0", "pass", "pass", "pass", "act 1 1", "pass", "pass", "act 0 0", "pass", "pass"};
        run(x, "begin 3 5 = 0");
        for (String move : moves) {
            answer(x, move);
        }
        String digest = answer(x, "digest");
        RuleStack y = good(DUEL);
        run(y, "begin 3 5 = 0");
        int made = Integer.parseInt(answer(x, "count 8"));
        due("moves that were made", "" + (made > 9), "true");
        for (int i = 0; i < made; i++) {
            String number = answer(x, "move " + i + " 1") + " " + answer(x, "move " + i + " 2");
            answer(y, new String[] {"act " + number, "reply " + number, "pass"}[Integer.parseInt(answer(x, "move " + i + " 0"))]);
        }
        run(y, "digest = " + digest);
        run(x, "back 4 = 0\ncount 8 = 4\ncount 9 = 3");
        for (int i = 4; i < made; i++) {
            String number = answer(y, "move " + i + " 1") + " " + answer(y, "move " + i + " 2");
            answer(x, new String[] {"act " + number, "reply " + number, "pass"}[Integer.parseInt(answer(y, "move " + i + " 0"))]);
        }
        run(x, "digest = " + digest);
    }

    static void section0AskingChangesNothing() {
        sentence("Not promised", "Nothing is promised beyond the answers and state changes described above");
        RuleStack x = good(DUEL);
        run(x, "begin 3 5 = 0\npass = 0\nact 1 1 = 1\npass = 0\nreply 1 0 = 2");
        write(x, "win 1;");
        String digest = answer(x, "digest");
        String[] asked = {"errorAt", "count 0", "count 9", "canAct 1 1", "canReply 0 2", "canReply 1 2", "moves", "state", "told 0", "told 7",
            "track 2 1", "pool 0", "stack 1 3", "move 2 3", "z", "mean 0", "mean 1", "digest"};
        for (int again = 0; again < 3; again++) {
            for (String call : asked) {
                String before = answer(x, call);
                run(x, "digest = " + digest + "\n" + call + " = " + before);
            }
        }
    }

    // ---- the language

    static void section1ARowOfTokens() {
        sentence("Section 1", "A text is a row of tokens.");
        String[] tokens = {"pool", "s", "0", "to", "9", "at", "4", ";", "phase", "p", ":", "x", ";", "act", "x", "do", "set", "s", "s", "+", "1", ";",
            "end", "win", "s", ">=", "9", ";"};
        RuleStack x = good(String.join("\n", tokens));
        run(x, "begin 2 0 = 0\nact 0 0 = 1\npass = 0\npool 0 = 5");
        // Two neighbours that change places are another row.
        for (int i = 0; i + 1 < tokens.length; i++) {
            String[] other = tokens.clone();
            other[i] = tokens[i + 1];
            other[i + 1] = tokens[i];
            boolean same = tokens[i].equals(tokens[i + 1]);
            due("compile of " + String.join(" ", other), "" + compiled(new RuleStack(), String.join(" ", other)).startsWith("0"), "" + same);
        }
    }

    static void section1EachKeywordInItsPlace() {
        sentence("Section 1", "The keywords are: " + KEYWORDS + ".");
        String program = "track t 0 to 9 at 3 ; pool s 0 to 9 at 4 ; phase p : x ; act x when not me = them do set my t 1 ; add their t die 6 ; "
            + "if round = 1 then skip ; else again ; end all cancel ; end end reply y when depth < 9 and players > 1 or s do end rule r at p do end win s = 9 ;";
        good(program);
        List<String> all = List.of(program.split(" "));
        for (String keyword : KEYWORDS.split(" ")) {
            due("the program has " + keyword, "" + all.contains(keyword), "true");
            // In no place a keyword is a name.
            for (String before : new String[] {"track ", "pool ", "phase ", "act ", "reply ", "rule ", "phase p: ", "phase p: x, ", "rule r at "}) {
                fault(1, before + "|" + keyword + " ");
            }
            fault(1, "act x do set my |" + keyword + " 1; end");
            fault(1, "act x do add their |" + keyword + " 1; end");
        }
        for (String name : new String[] {"tracks", "pools", "from", "by", "phases", "acts", "answer", "rules", "wins", "while", "begin", "sub", "elif", "stop",
            "any", "your", "dice", "turn", "you", "player", "xor", "mod", "true", "false", "target", "owner", "stack", "pass"}) {
            good("pool " + name + " 0 to 1 at 0; phase p:x; act x do end win " + name + ";");
        }
    }

    static void section1TheWinItem() {
        sentence("Section 1", "| \"win\" expression \";\"");
        String rest = "phase p:x;act x do end ";
        good(rest + "win 1;");
        good("win 1;" + rest);
        good(rest + "win (1 or 0) and not players < -3;");
        fault(1, "win |;");
        fault(1, "win |win 1;");
        fault(1, "win 1|");
        fault(1, "win 1 |do end");
        fault(1, "win w|: 1;");
        fault(1, "win 1|: 2;");
        fault(1, "win 1|, 2;");
        fault(1, "win |when 1;");
        fault(1, "win |set s 1;");
    }

    static void section1ErrorsAtTheName() {
        sentence("Section 1", "Error 2 (at the name): .. Error 3 (at the name): .. Error 5 (at the number, without a sign):");
        fault(2, "win 1 + my \n  |a;");
        fault(2, "win 1 + their \n  |a;");
        fault(2, "win 1 + ( |a );");
        fault(2, "act x do set \n |a 1; end");
        fault(2, "phase p: x , \n |y ; act x do end");
        fault(2, "rule r at  |q do end");
        fault(3, "act x do end act \n |x do end");
        fault(5, "track t - \n |1000 to 0 at 0;");
        fault(5, "pool t 0 to - \n |1 at 0;");
        fault(5, "pool t 0 to 1 at - |1;");
    }

    // ---- promises 2 to 6

    static void promise02WhichBytes() {
        sentence("Promise 2, feed", "a: bytes 1 to 4 .. b: bytes 5 to 8 .. c: bytes 9 to 12 .. d: bytes 13 to 16 .. e: bytes 17 to 20");
        // A word of four letters in one of the numbers, blanks in the others: no item begins with it.
        for (int number = 0; number < 5; number++) {
            StringBuilder row = new StringBuilder("feed");
            for (int i = 0; i < 5; i++) {
                row.append(i == number ? " 2054781041" : " 538976288");
            }
            script("the number " + number, row + " = 20\ncompile = 1\nerrorAt = " + 4 * number + "\n" + row + " = 20\ntrim " + 4 * number + " = " + 4 * number
                + "\ncompile = 1\nerrorAt = " + 4 * number);
        }
        // "win 4567 - 3456789 ;" has a number that is too long; "phase p:x;act x do e" goes on in the next call.
        script("a row across two calls", """
            feed 2003398176 875902519 539828275 875902519 943267899 = 20
            compile = 1
            errorAt = 11
            feed 1885888883 1696624698 2017157475 1948284960 1685004389 = 20
            feed 1852055671 1768824881 991961120 538976288 538976288 = 40
            compile = 0
            """);
    }

    static void promise03HowManyAreKept() {
        sentence("Promise 3, trim", "n: how many are kept");
        String text = "win 1; phase p:x; act x do end ";
        for (int kept = 0; kept <= text.length(); kept += 3) {
            RuleStack x = new RuleStack();
            write(x, text);
            run(x, "trim " + kept + " = " + kept + "\ncount 6 = " + kept);
            // What is written behind it comes behind what was kept.
            write(x, text.substring(kept));
            run(x, "count 6 = " + text.length() + "\ncompile = 0");
        }
    }

    static void promise06WhatIsCounted() {
        sentence("Promise 6, count", "what: 0 tracks, 1 pools, 2 phases, 3 acts, 4 replies, 5 rules, 6 bytes of the tape, 7 players of the game");
        String[] kinds = {"track t%c 0 to 1 at 0; ", "pool u%c 0 to 1 at 0; ", "phase v%c: aa; ", "act a%c do end ", "reply r%c do end ", "rule s%c at va do end "};
        int[] most = {6, 6, 6, 12, 8, 8};
        for (int kind = 0; kind < kinds.length; kind++) {
            for (int number = 0; number <= most[kind]; number += 2) {
                StringBuilder text = new StringBuilder("win 0; ");
                int[] counts = {1, 1, 1, 1, 1, 1, 0, 0, 0, 0};
                counts[kind] = kind == 2 || kind == 3 ? Math.max(1, number) : number;
                for (int i = 0; i < kinds.length; i++) {
                    text.append(items(kinds[i], counts[i]));
                }
                RuleStack x = good(text.toString());
                for (int what = 0; what <= 9; what++) {
                    run(x, "count " + what + " = " + counts[what]);
                }
            }
        }
    }

    // ---- promises 7 to 11

    static void promise07PlayersAndZ() {
        sentence("Promise 7, begin", "players: the number of players .. z: z");
        RuleStack x = good(DUEL);
        for (int players = 2; players <= 4; players++) {
            for (long z : new long[] {2, 3, 4, -5, 1L << 40, Long.MIN_VALUE}) {
                run(x, "begin " + players + " " + z + " = 0\ncount 7 = " + players + "\nz = " + z + "\nback 0 = 0\nz = " + z + "\ncount 7 = " + players);
            }
        }
    }

    static void promise08WhoDoesTheAct() {
        sentence("Promise 8, act", "Lets the player whose turn it is do an act. .. target: the target");
        RuleStack x = good("track t 0 to 9 at 0; phase p:x; act x do set my t 5; set their t 7; end win 0;");
        run(x, "begin 4 0 = 0");
        for (int turn = 0; turn < 4; turn++) {
            int target = (turn * 3 + 2) % 4;
            run(x, "told 1 = " + turn + "\nact 0 " + target + " = 1\nstack 0 0 = 0\nstack 0 1 = 0\nstack 0 2 = " + turn + "\nstack 0 3 = " + target);
            run(x, "pass = 0\npass = 0\npass = 0\ntrack " + turn + " 0 = " + (turn == target ? 7 : 5) + "\ntrack " + target + " 0 = 7\ntold 1 = " + turn + "\npass = 0");
        }
    }

    static void promise09WhoReplies() {
        sentence("Promise 9, reply", "Lets the player who is asked reply. .. target: the target");
        RuleStack x = good("track t 0 to 9 at 0; phase p:x; act x do end reply y do set my t 5; set their t 7; end win 0;");
        for (int passes = 0; passes < 3; passes++) {
            for (int target = 0; target < 4; target++) {
                run(x, "begin 4 0 = 0\nact 0 0 = 1\n" + "pass = 0\n".repeat(passes) + "told 3 = " + (passes + 1) + "\nreply 0 " + target + " = 2");
                run(x, "stack 1 0 = 1\nstack 1 1 = 0\nstack 1 2 = " + (passes + 1) + "\nstack 1 3 = " + target + "\npass = 0\npass = 0\npass = 0");
                run(x, "track " + (passes + 1) + " 0 = " + (passes + 1 == target ? 7 : 5) + "\ntrack " + target + " 0 = 7");
            }
        }
    }

    static void promise11WhatIsMeant() {
        sentence("Promise 11, can", "isReply: whether a reply is meant; otherwise an act .. number: its number .. target: a target");
        RuleStack x = good("phase p:x, y; act x when them = 1 do end act y when them = 2 do end reply r when them = 0 do end reply s when me = them do end win 0;");
        run(x, "begin 3 0 = 0");
        for (int target = 0; target < 3; target++) {
            run(x, "canAct 0 " + target + " = " + (target == 1) + "\ncanAct 1 " + target + " = " + (target == 2));
            run(x, "canReply 0 " + target + " = false\ncanReply 1 " + target + " = false");
        }
        run(x, "act 1 2 = 1\npass = 0\ntold 3 = 2");
        for (int target = 0; target < 3; target++) {
            run(x, "canReply 0 " + target + " = " + (target == 0) + "\ncanReply 1 " + target + " = " + (target == 2));
            run(x, "canAct 0 " + target + " = false\ncanAct 1 " + target + " = false");
        }
        // What can be done, and what is done, are the same.
        for (int target = 0; target < 3; target++) {
            for (int number = 0; number < 2; number++) {
                run(x, "begin 3 0 = 0\nact " + number + " " + target + " = " + ((number == 0 ? 1 : 2) == target ? "1" : "ISE"));
            }
        }
    }

    // ---- promises 15 to 22

    static void promise15WhoseTrack() {
        sentence("Promise 15, track", "player: a player .. track: a track");
        RuleStack x = good("track t 0 to 99 at 7; track u 0 to 99 at 8; track v 0 to 99 at 9; phase p:x; act x do all set their t 10 + them; set their u 20 + them; "
            + "set their v 30 + them; end end win 0;");
        run(x, "begin 3 0 = 0");
        for (int player = 0; player < 3; player++) {
            run(x, "track " + player + " 0 = 7\ntrack " + player + " 1 = 8\ntrack " + player + " 2 = 9");
        }
        run(x, "act 0 0 = 1\npass = 0\npass = 0");
        for (int player = 0; player < 3; player++) {
            run(x, "track " + player + " 0 = " + (10 + player) + "\ntrack " + player + " 1 = " + (20 + player) + "\ntrack " + player + " 2 = " + (30 + player));
        }
        run(x, "mean 0 = 11.0\nmean 1 = 21.0\nmean 2 = 31.0");
    }

    static void promise16WhichPool() {
        sentence("Promise 16, pool", "pool: a pool");
        RuleStack x = good("pool a 0 to 99 at 7; track t 0 to 99 at 5; pool b 0 to 99 at 8; phase p:x; act x do set b 40; set a 30; set my t 50; end win 0;");
        run(x, "pool 0 = 7\npool 1 = 8\nbegin 2 0 = 0\npool 0 = 7\npool 1 = 8\nact 0 0 = 1\npool 1 = 8\npass = 0\npool 0 = 30\npool 1 = 40");
    }

    static void promise17WhatIsOnTheStack() {
        sentence("Promise 17, stack", "what: 0 0 for an act, 1 for a reply, 1 its number, 2 its owner, 3 its target");
        RuleStack x = good("phase p:y; act x do end act y do end reply q do end reply r do end reply s do end win 0;");
        run(x, "begin 4 0 = 0\npass = 0\npass = 0\nact 0 3 = ISE\nact 1 3 = 1\nreply 2 1 = 2\npass = 0\nreply 0 2 = 3");
        int[][] rows = {{0, 1, 2, 3}, {1, 2, 3, 1}, {1, 0, 1, 2}};
        for (int place = 0; place < 3; place++) {
            for (int what = 0; what < 4; what++) {
                run(x, "stack " + place + " " + what + " = " + rows[place][what]);
            }
        }
    }

    static void promise18WhatWasRecorded() {
        sentence("Promise 18, move", "index: a move, from 0 .. Returns this.");
        RuleStack x = good("phase p:y; act x do end act y do end reply q do end reply r do end reply s do end win 0;");
        run(x, "begin 4 0 = 0\npass = 0\npass = 0\nact 1 3 = 1\nreply 2 1 = 2\npass = 0\nreply 0 2 = 3");
        int[][] rows = {{2, -1, -1, 0}, {2, -1, -1, 1}, {0, 1, 3, 2}, {1, 2, 1, 3}, {2, -1, -1, 0}, {1, 0, 2, 1}};
        for (int index = 0; index < rows.length; index++) {
            for (int what = 0; what < 4; what++) {
                run(x, "move " + index + " " + what + " = " + rows[index][what]);
            }
        }
        // What is done meanwhile does not change what was recorded; what is refused is not recorded.
        run(x, "reply 9 0 = IOOBE\nact 1 0 = ISE\npass = 0\npass = 0\npass = 0\ncount 8 = 9\nmove 5 1 = 0\nmove 8 0 = 2\nmove 8 3 = 0\nmove 2 2 = 3");
    }

    static void promise19HowManyAreLeft() {
        sentence("Promise 19, back", "moves: how many moves are left");
        RuleStack x = good("pool n 0 to 99 at 0; phase p:x; act x do add n 1; end win 0;");
        run(x, "begin 2 0 = 0");
        for (int i = 0; i < 6; i++) {
            run(x, "act 0 0 = 1\npass = 0");
        }
        for (int left = 12; left >= 0; left--) {
            run(x, "back " + left + " = 0\ncount 8 = " + left + "\npool 0 = " + left / 2 + "\ncount 9 = " + left % 2);
        }
    }

    static void promise21WhichTrack() {
        sentence("Promise 21, mean", "track: a track");
        RuleStack x = good("track t 0 to 99 at 7; track u -99 to 99 at -8; phase p:x; act x do set their t 8; add their u -1; end win 0;");
        run(x, "begin 4 0 = 0\nmean 0 = 7.0\nmean 1 = -8.0\nact 0 2 = 1\npass = 0\npass = 0\npass = 0\nmean 0 = 7.25\nmean 1 = -8.25");
    }

    static void promise22InThisOrder() {
        sentence("Promise 22, digest", "Computes a checksum. .. what count() tells, in its order; what state() tells; what told() tells, in its order; z; .. Returns d.");
        RuleStack x = good("track t 0 to 99 at 7; track u 0 to 99 at 8; track v 0 to 99 at 9; pool a 0 to 99 at 40; pool b 0 to 99 at 50; phase o:y; phase p:x; "
            + "act x do end act y do end act z do end act w do end reply q do skip; again; end reply r do end reply s do end reply m do end reply n do end win 0;");
        run(x, "begin 4 -77 = 0\nfeed 0 0 0 0 0 = 20\npass = 0\nact 0 2 = 1\nreply 0 3 = 2\npass = 0\npass = 0\npass = 0\npass = 0");
        long d = 419;
        long[] numbers = {3, 2, 2, 4, 5, 0, 20, 4, 7, 1, 0, 1, 0, 1, 2, -1, 1, 1, 1, -77, 7, 8, 9, 7, 8, 9, 7, 8, 9, 7, 8, 9, 40, 50, 0, 0, 0, 2,
            2, -1, -1, 0, 0, 0, 2, 0, 1, 0, 3, 1, 2, -1, -1, 2, 2, -1, -1, 3, 2, -1, -1, 0, 2, -1, -1, 1};
        for (long n : numbers) {
            d = d * 31 + n;
        }
        run(x, "digest = " + d + "\ndigest = " + d);
    }
}

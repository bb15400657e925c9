/**
 * Promises 1 to 22: each "Throws .. if ..", "-1 if ..", "0 without a game" and the like has a test of its own, with
 * the last value that is allowed and the first that isn't. The promises 4 and 5 are in Section1Test, too.
 */
public final class FaceBoundaryTest extends Scripts {
    private static final int[] FAR = {Integer.MIN_VALUE, -1000, Integer.MAX_VALUE, 1000};
    private static final String PROGRAM = "track t 0 to 9 at 3; track u -9 to 9 at -4; pool a 0 to 99 at 5; phase p:x, y; phase q:x; "
        + "act x do add a die 6; end act y when me <> them do set their t 9; end reply r do add my u 1; end reply s when depth > 1 do cancel; end "
        + "rule k at q do add my t 1; end win a > 90;";

    public static void main(String[] args) {
        runAll(FaceBoundaryTest.class);
    }

    /** Each of these arguments is refused; the call has them where the ? stands. */
    private static void refused(RuleStack x, String call, String exception, int... arguments) {
        for (int argument : arguments) {
            run(x, call.replace("?", "" + argument) + " = " + exception);
        }
    }

    private static RuleStack begun() {
        RuleStack x = good(PROGRAM);
        run(x, "begin 3 17 = 0");
        return x;
    }

    private static RuleStack overWithMoves() {
        RuleStack x = good("track t 0 to 9 at 3; pool a 0 to 1 at 0; phase p:x; act x do set a 1; end reply r do end win a;");
        run(x, "begin 2 3 = 0\nact 0 1 = 1\nreply 0 0 = 2\nreply 0 1 = 3\npass = 0\npass = 0\npass = 1");
        return x;
    }

    private static RuleStack wonWithAStack() {
        RuleStack x = good("track t 0 to 9 at 3; pool a 0 to 1 at 0; phase p:x; act x do end reply r do set a 1; end win a;");
        run(x, "begin 2 3 = 0\nact 0 1 = 1\nreply 0 0 = 2\nreply 0 1 = 3\npass = 1\ncount 9 = 2");
        return x;
    }

    // ---- programs

    static void promise01NewObject() {
        sentence("Promise 1, RuleStack", "Creates a table without a program and a game, with an empty tape.");
        RuleStack x = new RuleStack();
        for (int what = 0; what <= 9; what++) {
            run(x, "count " + what + " = 0");
        }
        run(x, """
            begin 2 0 = ISE
            state = -1
            trim 1 = IAE
            trim 0 = 0
            errorAt = -1
            """);
        // No object knows of another one.
        RuleStack y = good(PROGRAM);
        run(y, "begin 2 0 = 0");
        run(new RuleStack(), "count 0 = 0\nstate = -1\nbegin 2 0 = ISE");
        run(y, "state = 0\ncount 0 = 2");
    }

    static void promise02HighestByteFirst() {
        sentence("Promise 2, feed", "Appends twenty bytes to the tape: the four bytes of each number, the highest one first.");
        for (int other = 0; other < 20; other++) {
            int[] n = new int[5];
            for (int i = 0; i < 20; i++) {
                n[i / 4] = n[i / 4] << 8 | (i == other ? 255 : 32);
            }
            String row = "feed " + n[0] + " " + n[1] + " " + n[2] + " " + n[3] + " " + n[4];
            script("byte " + other, row + " = 20\ncompile = 1\nerrorAt = " + other);
        }
        // "phase p:x;act x do e" and "nd win 1;".
        script("", """
            feed 1885888883 1696620858 1648058723 1948279328 1685004389 = 20
            feed 1852055671 1768824881 991961120 538976288 538976288 = 40
            compile = 0
            feed -1 -1 -1 -1 -1 = 20
            compile = 1
            errorAt = 0
            """);
    }

    static void promise02ReturnsTheNumberOfBytes() {
        sentence("Promise 2, feed", "Returns the number of bytes of the tape.");
        script("", """
            feed 0 0 0 0 0 = 20
            feed -1 -1 -1 -1 -1 = 40
            trim 39 = 39
            feed 1 2 3 4 5 = 59
            trim 1 = 1
            feed 1 2 3 4 5 = 21
            trim 0 = 0
            feed 1 2 3 4 5 = 20
            compile = 1
            feed 1 2 3 4 5 = 20
            """);
    }

    static void promise02ThrowsAbove2000() {
        sentence("Promise 2, feed", "Throws IllegalStateException if there would be more than 2000");
        for (int length : new int[] {1960, 1979, 1980, 1981, 1999, 2000}) {
            RuleStack x = new RuleStack();
            write(x, " ".repeat(length));
            run(x, "count 6 = " + length + "\nfeed 0 0 0 0 0 = " + (length <= 1980 ? "" + (length + 20) : "ISE"));
            run(x, "count 6 = " + (length <= 1980 ? length + 20 : length));
            run(x, "compile = 1\nerrorAt = " + length);
        }
    }

    static void promise03Trim() {
        sentence("Promise 3, trim", "Shortens the tape to its first bytes. .. Returns n.");
        for (int kept : new int[] {33, 32, 29, 28, 27, 22, 1, 0}) {
            RuleStack x = new RuleStack();
            write(x, "phase p:x;act x do end win 1; ~ ~");
            run(x, "count 6 = 33\ntrim " + kept + " = " + kept + "\ncount 6 = " + kept);
            boolean whole = kept == 29;
            // What is left of "phase" is a name.
            int at = kept == 33 || kept == 32 ? 30 : whole ? -1 : kept == 1 ? 0 : kept;
            int error = kept == 22 ? 7 : whole ? 0 : 1;
            run(x, "compile = " + error + "\nerrorAt = " + at);
        }
    }

    static void promise03Throws() {
        sentence("Promise 3, trim", "Throws IllegalArgumentException if n is not 0 to the number of bytes of the tape");
        RuleStack x = new RuleStack();
        refused(x, "trim ?", "IAE", 1, -1);
        refused(x, "trim ?", "IAE", FAR);
        run(x, "trim 0 = 0");
        write(x, "phase p:x;act x do end win 1;");
        refused(x, "trim ?", "IAE", 30, -1);
        refused(x, "trim ?", "IAE", FAR);
        run(x, "trim 29 = 29\ncompile = 0\ntrim 1 = IAE\ntrim 0 = 0");
        RuleStack y = new RuleStack();
        write(y, " ".repeat(2000));
        run(y, "trim 2001 = IAE\ntrim 2000 = 2000\ntrim 1999 = 1999\ntrim 2000 = IAE");
    }

    // ---- promise 6

    static void promise06Count() {
        sentence("Promise 6, count", "Returns how many there are (0, if there is no program or game).");
        RuleStack x = new RuleStack();
        for (int what = 0; what <= 9; what++) {
            run(x, "count " + what + " = 0");
        }
        String text = "track t 0 to 1 at 0; track u 0 to 1 at 0; track v 0 to 1 at 0; pool a 0 to 1 at 0; phase p:x; phase q:x; act x do end "
            + "act y do end act z do end act w do end reply e do end reply f do end reply g do end reply h do end reply i do end "
            + "rule k1 at p do end rule k2 at p do end rule k3 at p do end rule k4 at p do end rule k5 at p do end rule k6 at p do end win 0;";
        write(x, text);
        run(x, "count 0 = 0\ncount 6 = " + text.length() + "\ncompile = 0");
        int[] program = {3, 1, 2, 4, 5, 6, 0, 0, 0, 0};
        for (int what = 0; what <= 9; what++) {
            run(x, "count " + what + " = " + program[what]);
        }
        run(x, "begin 3 0 = 0\nact 0 0 = 1\nreply 4 2 = 2\nfeed 0 0 0 0 0 = 20");
        int[] game = {3, 1, 2, 4, 5, 6, 20, 3, 2, 2};
        for (int what = 0; what <= 9; what++) {
            run(x, "count " + what + " = " + game[what]);
        }
        run(x, "compile = 1");
        for (int what = 0; what <= 9; what++) {
            run(x, "count " + what + " = 0");
        }
    }

    static void promise06CountsAtTheLimits() {
        sentence("Promise 6, count", "8 moves that were recorded, 9 acts and replies on the stack");
        RuleStack x = good(items("track t%c 0 to 1 at 0;", 6) + items("pool u%c 0 to 1 at 0;", 6) + items("phase v%c:aa;", 6)
            + items("act a%c do end ", 12) + items("reply r%c do end ", 8) + items("rule s%c at va do end ", 8) + "win 0;");
        run(x, "count 0 = 6\ncount 1 = 6\ncount 2 = 6\ncount 3 = 12\ncount 4 = 8\ncount 5 = 8\nbegin 4 0 = 0\ncount 7 = 4\nact 0 0 = 1");
        for (int height = 2; height <= 10; height++) {
            run(x, "reply 7 3 = " + height + "\ncount 9 = " + height + "\ncount 8 = " + height);
        }
        run(x, "reply 7 3 = ISE\ncount 9 = 10\ncount 8 = 10");
        for (int passes = 11; passes <= 250; passes++) {
            run(x, "pass = " + (passes == 250 ? 2 : 0));
        }
        run(x, "count 8 = 250\npass = ISE\ncount 8 = 250\ncount 7 = 4\ncount 9 = 0");
    }

    static void promise06Throws() {
        sentence("Promise 6, count", "Throws IndexOutOfBoundsException if what is not 0 to 9");
        for (RuleStack x : new RuleStack[] {new RuleStack(), good(PROGRAM), begun(), overWithMoves()}) {
            refused(x, "count ?", "IOOBE", -1, 10, 11);
            refused(x, "count ?", "IOOBE", FAR);
        }
        run(new RuleStack(), "count 0 = 0\ncount 9 = 0");
        run(begun(), "count 0 = 2\ncount 9 = 0");
    }

    // ---- promise 7

    static void promise07BeginsAnew() {
        sentence("Promise 7, begin", "Begins a game anew. .. Returns what state() tells then.");
        RuleStack x = begun();
        run(x, "act 0 0 = 1\nreply 0 0 = 2\npass = 0\npass = 0\npass = 0\npass = 0\nbegin 2 -1 = 0");
        RuleStack fresh = good(PROGRAM);
        run(fresh, "begin 2 -1 = 0");
        run(x, "digest = " + answer(fresh, "digest") + "\nstate = 0\ncount 8 = 0\nz = -1\nback 0 = 0\nz = -1\ncount 7 = 2");
        script("won at the beginning", "text phase p:x; act x do end rule r at p do end win players = 3;\ncompile = 0\nbegin 2 0 = 0\n"
            + "begin 3 0 = 1\nstate = 1\nbegin 2 0 = 0\nstate = 0\ntold 4 = -1");
        script("over at the beginning", "text phase p:x; act x do end rule r at p when players = 3 do skip; end win 0;\ncompile = 0\n"
            + "begin 2 0 = 0\nbegin 3 0 = 2\nstate = 2\nbegin 4 0 = 0");
        RuleStack asked = begun();
        run(asked, "pass = 0\nact 0 0 = 1\npass = 0\ntold 7 = 1\ntold 3 = 2\nbegin 2 -1 = 0\ntold 7 = 0\ntold 3 = -1");
        run(asked, "digest = " + answer(fresh, "digest") + "\nact 0 0 = 1\ntold 7 = 0\ntold 3 = 1\nbegin 2 -1 = 0\ntold 3 = -1\nback 0 = 0\ntold 7 = 0");
        RuleStack over = overWithMoves();
        run(over, "begin 2 3 = 0\nstate = 0\ncount 8 = 0\ncount 9 = 0\ntold 4 = -1\npool 0 = 0");
    }

    static void promise07ThrowsForPlayers() {
        sentence("Promise 7, begin", "Throws IllegalArgumentException if players is not 2 to 4");
        for (RuleStack x : new RuleStack[] {good(PROGRAM), begun(), overWithMoves(), new RuleStack()}) {
            refused(x, "begin ? 7", "IAE", 1, 5, 0, -1, -2, 6);
            refused(x, "begin ? 7", "IAE", FAR);
        }
        RuleStack x = good(PROGRAM);
        run(x, "begin 2 7 = 0\nbegin 4 7 = 0\nbegin 1 8 = IAE\nbegin 5 8 = IAE\nback 0 = 0\nz = 7\ncount 7 = 4");
    }

    static void promise07ThrowsWithoutProgram() {
        sentence("Promise 7, begin", "Throws IllegalStateException if there is no program");
        script("", """
            begin 2 0 = ISE
            begin 4 0 = ISE
            text win
            begin 2 0 = ISE
            compile = 1
            begin 2 0 = ISE
            text phase p:x;act x do end win 0;
            begin 2 0 = ISE
            compile = 0
            begin 2 0 = 0
            text win 1;
            begin 2 0 = 0
            compile = 7
            begin 2 0 = ISE
            """);
    }

    // ---- promises 8 to 10

    static void promise08ReturnsTheHeight() {
        sentence("Promise 8, act", "Returns the number of acts and replies on the stack.");
        run(begun(), "count 9 = 0\nact 0 0 = 1\ncount 9 = 1");
        run(begun(), "act 1 2 = 1\nstack 0 1 = 1\nstack 0 3 = 2");
    }

    static void promise08ThrowsForIndex() {
        sentence("Promise 8, act", "Throws IndexOutOfBoundsException if there is no such act or player");
        RuleStack x = begun();
        refused(x, "act ? 0", "IOOBE", -1, 2, 3);
        refused(x, "act ? 0", "IOOBE", FAR);
        refused(x, "act 0 ?", "IOOBE", -1, 3, 4);
        refused(x, "act 0 ?", "IOOBE", FAR);
        run(x, "act 2 3 = IOOBE\nact 0 2 = 1\nbegin 2 0 = 0\nact 0 2 = IOOBE\nact 0 1 = 1\nbegin 4 0 = 0\nact 0 4 = IOOBE\nact 0 3 = 1");
        // There are acts, but no players without a game, and neither of them without a program.
        run(good(PROGRAM), "act 0 0 = IOOBE\nact 2 0 = IOOBE");
        run(new RuleStack(), "act 0 0 = IOOBE\nact -1 0 = IOOBE");
    }

    static void promise08ThrowsForState() {
        sentence("Promise 8, act", "Throws IllegalStateException if there is no game that goes on, or the act cannot be done now");
        run(overWithMoves(), "act 0 0 = ISE\nact 0 1 = ISE\nact 1 0 = IOOBE\nact 0 2 = IOOBE");
        RuleStack x = begun();
        run(x, "act 1 0 = ISE\nact 1 1 = 1\nact 0 0 = ISE\nact 1 2 = ISE\npass = 0\npass = 0\nact 1 0 = ISE\npass = 0\ntold 2 = 1\nact 1 1 = ISE\nact 0 1 = 1");
    }

    static void promise08FirstException() {
        sentence("Promise 8, act", "if there is no such act or player");
        // No such act or player, and not now, either: the first one that is named.
        RuleStack x = begun();
        run(x, "act 0 0 = 1\nact 2 0 = IOOBE\nact -1 0 = IOOBE\nact 0 3 = IOOBE\nact 0 -1 = IOOBE\nact 1 0 = ISE");
        run(overWithMoves(), "act 1 0 = IOOBE\nact 0 2 = IOOBE\nact 0 0 = ISE");
    }

    static void promise08NumberedFrom0() {
        sentence("Promise 8, act", "the act, numbered from 0");
        RuleStack x = good("pool s 0 to 99 at 0; " + items("reply r%c do end ", 8) + items("act a%c do add s players; end ", 11)
            + "phase p:al, aa; act al do set s 77; end win 0;");
        run(x, "begin 2 0 = 0");
        for (int act = 1; act <= 10; act++) {
            run(x, "act " + act + " 0 = ISE");
        }
        run(x, "act 12 0 = IOOBE\nact 11 1 = 1\nstack 0 1 = 11\npass = 0\npool 0 = 77\nact 0 0 = 1\nstack 0 1 = 0\npass = 0\npool 0 = 79");
    }

    static void promise09ReturnsTheHeight() {
        sentence("Promise 9, reply", "Lets the player who is asked reply. .. Returns the number of acts and replies on the stack.");
        RuleStack x = begun();
        run(x, "act 0 0 = 1\nreply 0 2 = 2\nstack 1 2 = 1\nreply 1 0 = 3\nstack 2 2 = 2\ncount 9 = 3");
    }

    static void promise09ThrowsForIndex() {
        sentence("Promise 9, reply", "Throws IndexOutOfBoundsException if there is no such reply or player");
        RuleStack x = begun();
        run(x, "reply 2 0 = IOOBE\nreply 0 3 = IOOBE\nact 0 0 = 1");
        refused(x, "reply ? 0", "IOOBE", -1, 2, 3);
        refused(x, "reply ? 0", "IOOBE", FAR);
        refused(x, "reply 0 ?", "IOOBE", -1, 3, 4);
        refused(x, "reply 0 ?", "IOOBE", FAR);
        run(x, "reply 0 2 = 2\nreply 1 2 = 3");
        run(good(PROGRAM), "reply 0 0 = IOOBE");
        run(new RuleStack(), "reply 0 0 = IOOBE");
        RuleStack none = good("phase p:x;act x do end win 0;");
        run(none, "begin 2 0 = 0\nreply 0 0 = IOOBE\nact 0 0 = 1\nreply 0 0 = IOOBE\nmoves = 1");
    }

    static void promise09ThrowsForState() {
        sentence("Promise 9, reply", "Throws IllegalStateException if there is no game that goes on, nobody is asked, or it cannot be given now");
        run(overWithMoves(), "reply 0 0 = ISE\nreply 1 0 = IOOBE\nreply 0 2 = IOOBE");
        run(wonWithAStack(), "reply 0 0 = ISE\nreply 1 0 = IOOBE\nreply 0 2 = IOOBE");
        RuleStack x = begun();
        run(x, "reply 0 0 = ISE\nreply 1 0 = ISE\nact 0 0 = 1\nreply 1 0 = ISE\nreply 0 0 = 2\nreply 1 0 = 3");
        for (int height = 4; height <= 10; height++) {
            run(x, "reply 0 0 = " + height);
        }
        run(x, "reply 0 0 = ISE\nreply 1 0 = ISE\nreply 2 0 = IOOBE\nreply 0 3 = IOOBE");
    }

    static void promise09NumberedFrom0() {
        sentence("Promise 9, reply", "the reply, numbered from 0");
        StringBuilder replies = new StringBuilder();
        for (int i = 0; i < 8; i++) {
            replies.append("reply r" + i + " do set s s * 10 + " + (i + 1) + "; end act a" + i + " do end ");
        }
        RuleStack x = good("pool s 0 to 999 at 0; phase p:a7; " + replies + "win 0;");
        for (int first = 0; first < 8; first++) {
            int second = (first + 3) % 8;
            run(x, "begin 2 0 = 0\nact 7 0 = 1\nreply " + second + " 0 = 2\nreply " + first + " 0 = 3\nstack 1 1 = " + second
                + "\nstack 2 1 = " + first + "\npass = 0\npass = 0\npool 0 = " + (first * 10 + second + 11));
        }
        run(x, "reply 8 0 = IOOBE");
    }

    static void promise10Pass() {
        sentence("Promise 10, pass", "Lets the player who is asked pass, or, if nobody is, the one whose turn it is. .. Returns what state() tells then.");
        RuleStack x = begun();
        run(x, "pass = 0\nmove 0 3 = 0\nact 0 0 = 1\npass = 0\nmove 2 3 = 1\npass = 0\nmove 3 3 = 2\npass = 0\nmove 4 3 = 0\ntold 1 = 1\npass = 0\nmove 5 3 = 1");
        RuleStack y = overWithMoves();
        run(y, "state = 1\nback 5 = 0\npass = 1\nstate = 1");
    }

    static void promise10Throws() {
        sentence("Promise 10, pass", "Throws IllegalStateException if there is no game that goes on");
        run(new RuleStack(), "pass = ISE");
        run(good(PROGRAM), "pass = ISE");
        run(overWithMoves(), "pass = ISE");
        run(wonWithAStack(), "pass = ISE");
        RuleStack x = begun();
        run(x, "pass = 0");
        write(x, "win 1;");
        run(x, "pass = 0\ncompile = 7\npass = ISE");
        RuleStack over = good("phase p:x; act x do end rule r at p do skip; end win 0;");
        run(over, "begin 2 0 = 2\npass = ISE");
    }

    // ---- promises 11 to 14

    static void promise11Can() {
        sentence("Promise 11, can", "Returns whether it could be done now.");
        RuleStack x = begun();
        run(x, """
            canAct 0 0 = true
            canAct 0 2 = true
            canAct 1 0 = false
            canAct 1 1 = true
            canReply 0 0 = false
            act 0 0 = 1
            canAct 0 0 = false
            canAct 1 1 = false
            canReply 0 0 = true
            canReply 1 0 = false
            reply 0 0 = 2
            canReply 1 0 = true
            z = 17
            """);
        run(overWithMoves(), "canAct 0 0 = false\ncanReply 0 0 = false");
        run(wonWithAStack(), "canAct 0 0 = false\ncanReply 0 0 = false");
    }

    static void promise11Throws() {
        sentence("Promise 11, can", "Throws IndexOutOfBoundsException if there is no such act or reply, or no such player");
        RuleStack three = good("phase p:x; act x do end act y do end act z do end reply r do end reply s do end win 0;");
        run(three, "canAct 0 0 = IOOBE\ncanReply 0 0 = IOOBE\nbegin 3 0 = 0");
        for (String kind : new String[] {"canAct", "canReply"}) {
            refused(three, kind + " ? 0", "IOOBE", -1, 3, 4);
            refused(three, kind + " ? 0", "IOOBE", FAR);
            refused(three, kind + " 0 ?", "IOOBE", -1, 3, 4);
            refused(three, kind + " 0 ?", "IOOBE", FAR);
        }
        run(three, "canAct 2 0 = false\ncanReply 2 0 = IOOBE\ncanReply 1 0 = false\ncanAct 0 2 = true\nact 0 0 = 1\ncanReply 1 2 = true\ncanReply 2 2 = IOOBE");
        run(new RuleStack(), "canAct 0 0 = IOOBE\ncanReply 0 0 = IOOBE");
        run(overWithMoves(), "canAct 1 0 = IOOBE\ncanAct 0 2 = IOOBE\ncanReply 1 0 = IOOBE\ncanReply 0 2 = IOOBE");
    }

    static void promise12Moves() {
        sentence("Promise 12, moves", "Returns how many different moves can be made now, each act and reply with each target counting as one");
        for (int players = 2; players <= 4; players++) {
            // An act that stands in the phase twice is one move with each target; the pass is one more.
            RuleStack x = good("phase p:x, y, x; phase q:z; act x do end act y when them = 0 do end act z when 0 do end "
                + "reply r do end reply s when me <> them do end reply t when 0 do end win 0;");
            run(x, "begin " + players + " 0 = 0\nmoves = " + (1 + players + 1));
            run(x, "act 0 0 = 1\nmoves = " + (1 + players + players - 1) + "\nreply 0 0 = 2\nmoves = " + (2 * players));
            run(x, "begin " + players + " 0 = 0\npass = 0\nmoves = 1");
        }
        RuleStack most = good(items("act a%c do end ", 12) + items("reply r%c do end ", 8) + "phase p:" + items("a%c,", 11) + "al; "
            + "rule k at p do end win 0;");
        run(most, "begin 4 0 = 0\nmoves = 49\nact 11 3 = 1\nmoves = 33");
        for (int height = 2; height <= 10; height++) {
            run(most, "moves = 33\nreply 7 3 = " + height);
        }
        run(most, "moves = 1");
    }

    static void promise12NoGame() {
        sentence("Promise 12, moves", "0 if no game goes on.");
        run(new RuleStack(), "moves = 0");
        run(good(PROGRAM), "moves = 0");
        run(begun(), "moves = 6");
        run(overWithMoves(), "moves = 0");
        run(wonWithAStack(), "moves = 0");
        RuleStack over = good("phase p:x; act x do end rule r at p do skip; end win 0;");
        run(over, "begin 2 0 = 2\nmoves = 0");
    }

    static void promise13State() {
        sentence("Promise 13, state", "Returns 0 if the game goes on, 1 if somebody has won, 2 if it is over, and nobody has; -1 without a game.");
        run(new RuleStack(), "state = -1");
        run(good(PROGRAM), "state = -1");
        RuleStack x = begun();
        run(x, "state = 0\ncompile = 1\nstate = -1");
        run(overWithMoves(), "state = 1\nback 5 = 0\nstate = 0");
        RuleStack over = good("phase p:x; act x do end rule r at p do skip; end win 0;");
        run(over, "begin 2 0 = 2\nstate = 2");
    }

    static void promise14RoundPlayerPhase() {
        sentence("Promise 14, told", "0 the round, 1 the player whose turn it is, 2 the phase");
        RuleStack x = good("phase p:x; phase q:x; act x do end win 0;");
        run(x, "begin 2 0 = 0");
        for (int move = 0; move < 100; move++) {
            run(x, "told 0 = " + (1 + move / 4) + "\ntold 1 = " + move / 2 % 2 + "\ntold 2 = " + move % 2 + "\npass = 0");
        }
    }

    static void promise14WithoutAGame() {
        sentence("Promise 14, told", "Returns this; -1 without a game.");
        for (int what = 0; what <= 7; what++) {
            run(new RuleStack(), "told " + what + " = -1");
            run(good(PROGRAM), "told " + what + " = -1");
            RuleStack x = begun();
            run(x, "compile = 1\ntold " + what + " = -1");
        }
    }

    static void promise14NobodyIsAsked() {
        sentence("Promise 14, told", "3 the player who is asked, -1 if nobody is (also when the game is over)");
        run(begun(), "told 3 = -1\nact 0 0 = 1\ntold 3 = 1\npass = 0\ntold 3 = 2\npass = 0\ntold 3 = -1");
        run(overWithMoves(), "told 3 = -1");
        run(wonWithAStack(), "told 3 = -1\nback 3 = 0\ntold 3 = 1\nback 2 = 0\ntold 3 = 0");
    }

    static void promise14NobodyHasWon() {
        sentence("Promise 14, told", "4 the player who has won, -1 if nobody has");
        run(begun(), "told 4 = -1");
        run(overWithMoves(), "told 4 = 0\nback 5 = 0\ntold 4 = -1\npass = 1\ntold 4 = 0\nbegin 2 0 = 0\ntold 4 = -1");
        RuleStack over = good("phase p:x; act x do end rule r at p do skip; end win 0;");
        run(over, "begin 2 0 = 2\ntold 4 = -1");
    }

    static void promise14SkipAndAgain() {
        sentence("Promise 14, told", "5 1 if skip was done in this turn, else 0, 6 1 if again was done, else 0");
        RuleStack x = good("phase p:x, y; act x do skip; end act y do again; end reply r do skip; end reply s do again; end win 0;");
        run(x, """
            begin 2 0 = 0
            told 5 = 0
            told 6 = 0
            act 1 0 = 1
            reply 0 0 = 2
            pass = 0
            told 5 = 1
            told 6 = 0
            reply 1 0 = 2
            pass = 0
            told 5 = 1
            told 6 = 1
            pass = 0
            told 1 = 0
            told 5 = 0
            told 6 = 0
            act 1 0 = 1
            pass = 0
            told 5 = 0
            told 6 = 1
            """);
    }

    static void promise14Passed() {
        sentence("Promise 14, told", "7 how many have passed one after the other since the uppermost act or reply came there or became the "
            + "uppermost one; 0 if nobody is asked");
        RuleStack x = good("phase p:x; phase q:x; act x do end reply r do end win 0;");
        run(x, """
            begin 4 0 = 0
            told 7 = 0
            pass = 0
            told 7 = 0
            act 0 0 = 1
            told 7 = 0
            pass = 0
            told 7 = 1
            pass = 0
            told 7 = 2
            reply 0 0 = 2
            told 7 = 0
            pass = 0
            pass = 0
            told 7 = 2
            pass = 0
            told 7 = 0
            count 9 = 1
            pass = 0
            told 7 = 1
            pass = 0
            pass = 0
            told 7 = 0
            count 9 = 0
            told 3 = -1
            """);
        run(wonWithAStack(), "told 7 = 0");
    }

    static void promise14Throws() {
        sentence("Promise 14, told", "Throws IndexOutOfBoundsException if what is not 0 to 7");
        for (RuleStack x : new RuleStack[] {new RuleStack(), good(PROGRAM), begun(), overWithMoves()}) {
            refused(x, "told ?", "IOOBE", -1, 8, 9);
            refused(x, "told ?", "IOOBE", FAR);
        }
        run(begun(), "told 0 = 1\ntold 7 = 0");
    }

    // ---- promises 15 to 17

    static void promise15ReturnsTheValue() {
        sentence("Promise 15, track", "Returns its value.");
        RuleStack x = good("track t 0 to 9 at 3; track u -9 to 9 at -4; phase p:x, y; act x do set their u 9; end act y do set my t 0; end win 0;");
        run(x, """
            begin 3 0 = 0
            act 0 2 = 1
            pass = 0
            pass = 0
            track 0 0 = 3
            track 0 1 = -4
            track 1 0 = 3
            track 1 1 = -4
            track 2 0 = 3
            track 2 1 = 9
            act 1 1 = 1
            pass = 0
            pass = 0
            track 0 0 = 0
            track 1 0 = 3
            track 2 1 = 9
            back 3 = 0
            track 0 0 = 3
            track 2 1 = 9
            back 2 = 0
            track 2 1 = -4
            """);
    }

    static void promise15Throws() {
        sentence("Promise 15, track", "Throws IndexOutOfBoundsException if there is no such player or track");
        RuleStack x = good(PROGRAM);
        run(x, "track 0 0 = IOOBE\nbegin 2 0 = 0");
        refused(x, "track ? 0", "IOOBE", -1, 2, 3);
        refused(x, "track ? 0", "IOOBE", FAR);
        refused(x, "track 0 ?", "IOOBE", -1, 2, 3);
        refused(x, "track 0 ?", "IOOBE", FAR);
        run(x, "track 1 1 = -4\ntrack 1 0 = 3\nbegin 4 0 = 0\ntrack 3 1 = -4\ntrack 4 1 = IOOBE\ntrack 3 2 = IOOBE");
        run(new RuleStack(), "track 0 0 = IOOBE");
        run(overWithMoves(), "track 0 0 = 3\ntrack 1 0 = 3\ntrack 2 0 = IOOBE\ntrack 0 1 = IOOBE");
        RuleStack none = good("pool a 0 to 1 at 0; phase p:x; act x do end win 0;");
        run(none, "begin 2 0 = 0\ntrack 0 0 = IOOBE");
        RuleStack most = good(items("track t%c -9 to 9 at 5; ", 6).replace("tf -9 to 9 at 5", "tf -9 to 9 at -7") + "phase p:x; act x do end win 0;");
        run(most, "begin 4 0 = 0\ntrack 3 5 = -7\ntrack 3 6 = IOOBE\ntrack 3 4 = 5");
    }

    static void promise16WithoutAGame() {
        sentence("Promise 16, pool", "Returns its value; that at first, if there is no game.");
        RuleStack x = good("pool a 0 to 9 at 2; pool b -9 to 9 at -3; phase p:x; act x do set a 7; set b 8; end win 0;");
        run(x, "pool 0 = 2\npool 1 = -3\nbegin 2 0 = 0\npool 0 = 2\npool 1 = -3\nact 0 0 = 1\npass = 0\npool 0 = 7\npool 1 = 8");
        write(x, "pool a 0 to 9 at 4; phase p:x; act x do end win 0;");
        run(x, "pool 0 = 7\ncompile = 0\npool 0 = 4\npool 1 = IOOBE\nbegin 2 0 = 0\npool 0 = 4");
    }

    static void promise16Throws() {
        sentence("Promise 16, pool", "Throws IndexOutOfBoundsException if there is no such pool");
        RuleStack x = good("pool a 0 to 9 at 2; pool b -9 to 9 at -3; phase p:x; act x do end win 0;");
        for (int game = 0; game <= 1; game++) {
            refused(x, "pool ?", "IOOBE", -1, 2, 3);
            refused(x, "pool ?", "IOOBE", FAR);
            run(x, "pool 1 = -3\nbegin 2 0 = 0");
        }
        run(new RuleStack(), "pool 0 = IOOBE");
        RuleStack none = good("track a 0 to 1 at 0; phase p:x; act x do end win 0;");
        run(none, "pool 0 = IOOBE\nbegin 2 0 = 0\npool 0 = IOOBE");
        RuleStack most = good(items("pool t%c 0 to 9 at 5; ", 6) + "phase p:x; act x do end win 0;");
        run(most, "pool 5 = 5\npool 6 = IOOBE\nbegin 2 0 = 0\npool 5 = 5\npool 6 = IOOBE");
        run(most, "compile = 1\npool 5 = IOOBE\npool 0 = IOOBE");
    }

    static void promise17FromTheLowest() {
        sentence("Promise 17, stack", "a place on the stack, from 0 for the lowest one");
        RuleStack x = good("phase p:x, y; act x do end act y do end reply r do end reply s do end reply t do end win 0;");
        run(x, "begin 4 0 = 0\nact 1 3 = 1");
        int[][] rows = new int[10][];
        rows[0] = new int[] {0, 1, 0, 3};
        int owner = 0;
        for (int place = 1; place < 10; place++) {
            owner = (owner + 1) % 4;
            if (place % 3 == 0) {
                run(x, "pass = 0");
                owner = (owner + 1) % 4;
            }
            rows[place] = new int[] {1, place % 3, owner, place * 3 % 4};
            run(x, "reply " + place % 3 + " " + place * 3 % 4 + " = " + (place + 1));
        }
        for (int place = 0; place < 10; place++) {
            for (int what = 0; what < 4; what++) {
                run(x, "stack " + place + " " + what + " = " + rows[place][what]);
            }
        }
        run(x, "stack 10 0 = IOOBE\nstack 9 4 = IOOBE");
    }

    static void promise17Throws() {
        sentence("Promise 17, stack", "Throws IndexOutOfBoundsException if there is no such place, or what is not 0 to 3");
        RuleStack x = begun();
        run(x, "stack 0 0 = IOOBE\nact 0 2 = 1");
        refused(x, "stack ? 0", "IOOBE", -1, 1, 2);
        refused(x, "stack ? 0", "IOOBE", FAR);
        refused(x, "stack 0 ?", "IOOBE", -1, 4, 5);
        refused(x, "stack 0 ?", "IOOBE", FAR);
        refused(x, "stack ? 4", "IOOBE", -1, 0, 1);
        run(x, """
            stack 0 0 = 0
            stack 0 1 = 0
            stack 0 2 = 0
            stack 0 3 = 2
            reply 0 1 = 2
            stack 1 0 = 1
            stack 1 1 = 0
            stack 1 2 = 1
            stack 1 3 = 1
            stack 2 0 = IOOBE
            pass = 0
            pass = 0
            stack 1 0 = IOOBE
            stack 0 3 = 2
            pass = 0
            pass = 0
            stack 0 0 = IOOBE
            """);
        run(wonWithAStack(), "stack 1 0 = 1\nstack 2 0 = IOOBE\nstack 0 0 = 0");
        run(new RuleStack(), "stack 0 0 = IOOBE\nstack -1 0 = IOOBE");
        run(good(PROGRAM), "stack 0 0 = IOOBE");
        RuleStack y = begun();
        run(y, "act 0 0 = 1\ncompile = 1\nstack 0 0 = IOOBE");
    }

    // ---- promises 18 to 22

    static void promise18Pass() {
        sentence("Promise 18, move", "0 its sort: 0 an act, 1 a reply, 2 a pass, 1 its number, -1 for a pass, 2 its target, -1 for a pass, 3 who made it");
        RuleStack x = begun();
        run(x, "act 1 2 = 1\npass = 0\nreply 1 0 = ISE\nreply 0 1 = 2\npass = 0");
        int[][] rows = {{0, 1, 2, 0}, {2, -1, -1, 1}, {1, 0, 1, 2}, {2, -1, -1, 0}};
        for (int index = 0; index < rows.length; index++) {
            for (int what = 0; what <= 3; what++) {
                run(x, "move " + index + " " + what + " = " + rows[index][what]);
            }
        }
    }

    static void promise18Throws() {
        sentence("Promise 18, move", "Throws IndexOutOfBoundsException if there is no such move, or what is not 0 to 3");
        RuleStack x = begun();
        run(x, "move 0 0 = IOOBE\npass = 0");
        refused(x, "move ? 0", "IOOBE", -1, 1, 2);
        refused(x, "move ? 0", "IOOBE", FAR);
        refused(x, "move 0 ?", "IOOBE", -1, 4, 5);
        refused(x, "move 0 ?", "IOOBE", FAR);
        run(x, "move 0 0 = 2\nmove 0 3 = 0\npass = 0\nmove 1 3 = 0\nmove 2 0 = IOOBE\nback 1 = 0\nmove 1 0 = IOOBE\nmove 0 0 = 2");
        run(x, "begin 2 0 = 0\nmove 0 0 = IOOBE");
        run(new RuleStack(), "move 0 0 = IOOBE");
        run(good(PROGRAM), "move 0 0 = IOOBE");
        run(overWithMoves(), "move 5 0 = 2\nmove 6 0 = IOOBE");
    }

    static void promise19Back() {
        sentence("Promise 19, back", "Takes moves back: the game is begun anew with the same players and the same z as at its beginning, "
            + "and its first moves are made again. .. Returns what state() tells then.");
        String[] moves = {"act 0 0 = 1", "pass = 0", "reply 0 1 = 2", "reply 1 0 = 3", "pass = 0", "pass = 0", "pass = 0", "pass = 0",
            "pass = 0", "pass = 0", "act 0 2 = 1"};
        RuleStack x = begun();
        String[] digests = new String[moves.length + 1];
        digests[0] = answer(x, "digest");
        for (int i = 0; i < moves.length; i++) {
            run(x, moves[i]);
            digests[i + 1] = answer(x, "digest");
        }
        for (int left = moves.length; left >= 0; left--) {
            run(x, "back " + left + " = 0\ncount 8 = " + left + "\ndigest = " + digests[left] + "\nback " + (left + 1) + " = IAE");
        }
        for (int i = 0; i < moves.length; i++) {
            run(x, moves[i] + "\ndigest = " + digests[i + 1]);
        }
        run(x, "back 0 = 0\nz = 17\ncount 7 = 3");
        run(overWithMoves(), "back 6 = 1\nstate = 1\nback 5 = 0\nback 6 = IAE\npass = 1\nback 0 = 0\nz = 3\ncount 7 = 2");
        RuleStack won = good("phase p:x; act x do end rule r at p do end win 1;");
        run(won, "begin 2 0 = 1\nback 0 = 1\nback 1 = IAE");
    }

    static void promise19ThrowsForMoves() {
        sentence("Promise 19, back", "Throws IllegalArgumentException if moves is not 0 to the number of moves");
        RuleStack x = begun();
        refused(x, "back ?", "IAE", -1, 1, 2);
        run(x, "back 0 = 0\npass = 0\npass = 0\npass = 0");
        refused(x, "back ?", "IAE", -1, 4, 5);
        refused(x, "back ?", "IAE", FAR);
        run(x, "back 3 = 0\nback 2 = 0\nback 3 = IAE\nback 0 = 0\nback 1 = IAE");
        refused(new RuleStack(), "back ?", "IAE", -1, 1, 2);
        refused(new RuleStack(), "back ?", "IAE", FAR);
        refused(good(PROGRAM), "back ?", "IAE", -1, 1);
    }

    static void promise19ThrowsWithoutAGame() {
        sentence("Promise 19, back", "Throws IllegalStateException if no game was begun");
        run(new RuleStack(), "back 0 = ISE");
        RuleStack x = good(PROGRAM);
        run(x, "back 0 = ISE\nbegin 2 0 = 0\nback 0 = 0\ncompile = 1\nback 0 = ISE\nback 1 = IAE");
        write(x, PROGRAM);
        run(x, "compile = 0\nback 0 = ISE");
    }

    static void promise20WithoutAGame() {
        sentence("Promise 20, z", "Returns z as it is now; 0 without a game.");
        run(new RuleStack(), "z = 0");
        RuleStack x = good(PROGRAM);
        run(x, "z = 0");
        for (long z : new long[] {0, 1, -1, Long.MAX_VALUE, Long.MIN_VALUE, 4294967296L}) {
            run(x, "begin 2 " + z + " = 0\nz = " + z + "\npass = 0\nz = " + z + "\nact 0 0 = 1\nz = " + z + "\npass = 0\nz = "
                + (z * 6364136223846793005L + 1442695040888963407L) + "\nback 0 = 0\nz = " + z);
        }
        run(x, "compile = 1\nz = 0");
    }

    static void promise21Mean() {
        sentence("Promise 21, mean", "Returns the mean of its values over all players; 0 without a game.");
        RuleStack x = good("track t -999 to 999 at -999; track u 0 to 9 at 2; phase p:x, y; act x do add their t 1; end act y do set their t 999; end win 0;");
        run(x, """
            mean 0 = 0.0
            mean 1 = 0.0
            begin 2 0 = 0
            mean 0 = -999.0
            mean 1 = 2.0
            act 0 0 = 1
            pass = 0
            mean 0 = -998.5
            begin 3 0 = 0
            act 0 2 = 1
            pass = 0
            pass = 0
            mean 0 = -998.6666666666666
            mean 1 = 2.0
            act 1 2 = 1
            pass = 0
            pass = 0
            mean 0 = -333.0
            begin 4 0 = 0
            act 0 3 = 1
            pass = 0
            pass = 0
            pass = 0
            mean 0 = -998.75
            compile = 1
            mean 0 = IOOBE
            """);
    }

    static void promise21Throws() {
        sentence("Promise 21, mean", "Throws IndexOutOfBoundsException if there is no such track");
        RuleStack x = good(PROGRAM);
        for (int game = 0; game <= 1; game++) {
            refused(x, "mean ?", "IOOBE", -1, 2, 3);
            refused(x, "mean ?", "IOOBE", FAR);
            run(x, "begin 2 0 = 0\nmean 0 = 3.0\nmean 1 = -4.0");
        }
        run(new RuleStack(), "mean 0 = IOOBE");
        RuleStack none = good("pool a 0 to 1 at 0; phase p:x; act x do end win 0;");
        run(none, "mean 0 = IOOBE\nbegin 2 0 = 0\nmean 0 = IOOBE");
    }

    static void promise22Digest() {
        sentence("Promise 22, digest", "A number d starts with 419; for each of the following numbers x, d becomes d * 31 + x, "
            + "which wraps around as a 64-bit integer");
        RuleStack x = new RuleStack();
        run(x, "digest = " + reckonedDigest(x));
        write(x, "win");
        run(x, "digest = " + reckonedDigest(x));
        RuleStack y = good(PROGRAM);
        run(y, "digest = " + reckonedDigest(y) + "\nbegin 4 -77 = 0");
        run(y, "digest = " + reckonedDigest(y) + "\nact 0 3 = 1\npass = 0\nreply 0 2 = 2\nreply 1 3 = 3");
        run(y, "digest = " + reckonedDigest(y) + "\npass = 0\npass = 0\npass = 0\nfeed 0 0 0 0 0 = 20");
        run(y, "digest = " + reckonedDigest(y) + "\ncompile = 1");
        run(y, "digest = " + reckonedDigest(y));
        run(overWithMoves(), "digest = " + reckonedDigest(overWithMoves()));
        run(wonWithAStack(), "digest = " + reckonedDigest(wonWithAStack()));
    }

    static void promise22PoolsOfAGame() {
        sentence("Promise 22, digest", "the values of all pools (of a game)");
        RuleStack x = good("pool a 0 to 9 at 2; phase p:x; act x do end win 0;");
        long d = 419;
        for (long n : new long[] {0, 1, 1, 1, 0, 0, 0, 0, 0, 0, -1, -1, -1, -1, -1, -1, -1, -1, -1, 0}) {
            d = d * 31 + n;
        }
        run(x, "digest = " + d + "\nbegin 2 0 = 0");
        d = 419;
        for (long n : new long[] {0, 1, 1, 1, 0, 0, 0, 2, 0, 0, 0, 1, 0, 0, -1, -1, 0, 0, 0, 0, 2}) {
            d = d * 31 + n;
        }
        run(x, "digest = " + d);
    }

    static void promise22ValuesInTheirOrder() {
        sentence("Promise 22, digest", "for each player the values of all tracks; the values of all pools (of a game)");
        RuleStack x = good("track t -9 to 9 at -1; pool a 0 to 9 at 2; track u 0 to 99 at 30; pool b -50 to 50 at -40; pool c 0 to 500 at 500; "
            + "phase p:x; act x do set my t 7; set my u 8; set their t -8; set their u 9; end win 0;");
        run(x, "begin 3 0 = 0");
        run(x, "digest = " + reckonedDigest(x) + "\npass = 0\nact 0 2 = 1\npass = 0\npass = 0");
        long d = 419;
        for (long n : new long[] {2, 3, 1, 1, 0, 0, 0, 3, 4, 0, 0, 1, 1, 0, -1, -1, 0, 0, 0, 0, -1, 30, 7, 8, -8, 9, 2, -40, 500,
            2, -1, -1, 0, 0, 0, 2, 1, 2, -1, -1, 2, 2, -1, -1, 0}) {
            d = d * 31 + n;
        }
        run(x, "digest = " + d);
    }

    static void promise22FullStackAndAllMoves() {
        sentence("Promise 22, digest", "for each place on the stack what stack() tells, in its order; for each move what move() tells, in its order.");
        RuleStack x = good(PROGRAM);
        run(x, "begin 4 9 = 0\nact 0 3 = 1");
        for (int height = 2; height <= 10; height++) {
            run(x, "reply 0 " + height % 4 + " = " + height);
        }
        run(x, "digest = " + reckonedDigest(x) + "\npass = 0\npass = 0\npass = 0\npass = 0");
        run(x, "count 9 = 9\ndigest = " + reckonedDigest(x));
    }

    // ---- all methods

    static void promise00ExceptionsChangeNothing() {
        sentence("All methods", "A method that throws an exception changes nothing.");
        String[] wrong = {"trim 2001 = IAE", "trim -1 = IAE", "count 10 = IOOBE", "begin 1 99 = IAE", "act 9 9 = IOOBE", "act 0 0 = ISE",
            "reply 9 9 = IOOBE", "reply 1 0 = ISE", "canAct 9 9 = IOOBE", "told 8 = IOOBE", "track 9 9 = IOOBE", "pool 9 = IOOBE",
            "stack 9 9 = IOOBE", "move 9 9 = IOOBE", "back 9 = IAE", "mean 9 = IOOBE"};
        RuleStack x = begun();
        RuleStack same = begun();
        for (RuleStack one : new RuleStack[] {x, same}) {
            run(one, "act 0 0 = 1\npass = 0");
            write(one, "win 1; win 1;");
            for (String call : wrong) {
                if (one == x) {
                    run(one, call);
                }
            }
        }
        String[] then = {"count 6", "errorAt", "digest", "pass", "z", "digest", "back 2", "digest", "z", "reply 0 0", "digest",
            "back 0", "digest", "z", "compile", "errorAt", "digest"};
        for (String call : then) {
            run(x, call + " = " + answer(same, call));
        }
        // A tape that is full keeps its bytes.
        RuleStack full = new RuleStack();
        write(full, PROGRAM + " ".repeat(1990 - PROGRAM.length()));
        run(full, "feed -1 -1 -1 -1 -1 = ISE\ntrim 1991 = IAE\ncount 6 = 1990\ncompile = 0\npass = ISE\nback 0 = ISE\nbegin 2 0 = 0");
    }

    static void promise00FirstNamedException() {
        sentence("All methods", "If several exceptions apply, the one that is named first is thrown.");
        run(new RuleStack(), "begin 1 0 = IAE\nbegin 5 0 = IAE\nbegin 2 0 = ISE\nback 1 = IAE\nback -1 = IAE\nback 0 = ISE\n"
            + "act 0 0 = IOOBE\nreply 0 0 = IOOBE\npass = ISE");
        run(good(PROGRAM), "back 1 = IAE\nback -1 = IAE\nback 0 = ISE\nact 0 0 = IOOBE\nreply 0 0 = IOOBE\nact 2 0 = IOOBE");
        run(overWithMoves(), "act 1 0 = IOOBE\nact 0 2 = IOOBE\nact 0 0 = ISE\nreply 1 0 = IOOBE\nreply 0 2 = IOOBE\nreply 0 0 = ISE");
        run(begun(), "reply 2 0 = IOOBE\nreply 0 3 = IOOBE\nreply 0 0 = ISE\nact 1 3 = IOOBE\nact 1 0 = ISE");
    }

    static void promise00FiveHundredAndTwelveCalls() {
        sentence("All methods", "An object is used for at most 512 calls after it has been made");
        // The dearest calls, up to the last one that is promised: 250 moves, made again and again.
        RuleStack x = good("pool b 0 to 999 at 0; phase p:x; act x do all all all all add b 1; end end end end end rule r at p do set b 0; end win 0;");
        run(x, "begin 4 0 = 0");
        for (int i = 0; i < 50; i++) {
            run(x, "act 0 0 = 1\npass = 0\npass = 0\npass = 0\npass = " + (i == 49 ? 2 : 0));
        }
        run(x, "count 8 = 250\nstate = 2");
        String digest = answer(x, "digest");
        for (int i = 0; i < 200; i++) {
            run(x, "back 250 = 2");
        }
        run(x, "digest = " + digest);
    }

    static void promise00StatesOfTwoObjects() {
        sentence("Promise 1, RuleStack", "Creates a table without a program and a game");
        RuleStack x = begun();
        RuleStack y = good("pool a 0 to 9 at 4; phase p:x; act x do set a 1; end win 0;");
        run(y, "begin 2 5 = 0");
        String digest = answer(x, "digest");
        run(y, "act 0 0 = 1\npass = 0\npool 0 = 1");
        run(x, "digest = " + digest + "\ncount 0 = 2\nz = 17");
    }
}
